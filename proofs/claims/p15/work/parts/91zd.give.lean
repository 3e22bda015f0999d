/-! giving of the class -/
def tB (x k : Int) : Bool := decide (iA (iR x k) 1 = 1)
def b4 (x : Int) : B4 := (tB x 0, tB x 1, tB x 2, tB x 3)
def Wm (m : Nat → Nat → Int) : Nat → B4 := fun p => b4 (m 42 p)
theorem toF {x : Int} (h : 0 ≤ x ∧ x ≤ 15) : ∃ f : Fin 16, x = ((f.val : Nat) : Int) := ⟨⟨x.toNat, by omega⟩, by show x = ((x.toNat : Nat) : Int); omega⟩
theorem ou_b {x u : Int} (hx : 0 ≤ x ∧ x ≤ 15) (hu : 0 ≤ u ∧ u ≤ 15) : bI (decide (¬ iA x (iX u (-1)) = 0)) = ou (b4 x) (b4 u) := by
  have key : ∀ x u : Fin 16, bI (decide (¬ iA ((x.val : Nat) : Int) (iX ((u.val : Nat) : Int) (-1)) = 0)) = ou (b4 ((x.val : Nat) : Int)) (b4 ((u.val : Nat) : Int)) := by decide +kernel
  obtain ⟨f, rfl⟩ := toF hx
  obtain ⟨g, rfl⟩ := toF hu
  exact key f g
theorem tb_e {u : Int} (hu : 0 ≤ u ∧ u ≤ 15) : iA (iR u 0) 1 = bI (tB u 0) ∧ iA (iR u 1) 1 = bI (tB u 1) ∧ iA (iR u 2) 1 = bI (tB u 2) ∧ iA (iR u 3) 1 = bI (tB u 3) := by
  have key : ∀ u : Fin 16, iA (iR ((u.val : Nat) : Int) 0) 1 = bI (tB ((u.val : Nat) : Int) 0) ∧ iA (iR ((u.val : Nat) : Int) 1) 1 = bI (tB ((u.val : Nat) : Int) 1) ∧ iA (iR ((u.val : Nat) : Int) 2) 1 = bI (tB ((u.val : Nat) : Int) 2) ∧ iA (iR ((u.val : Nat) : Int) 3) 1 = bI (tB ((u.val : Nat) : Int) 3) := by decide +kernel
  obtain ⟨g, rfl⟩ := toF hu
  exact key g
theorem b4_s (U : B4) : ∃ v : Int, (0 ≤ v ∧ v ≤ 15) ∧ b4 v = U := by
  have key : ∀ a b c d : Bool, ∃ v : Fin 16, b4 ((v.val : Nat) : Int) = (a, b, c, d) := by decide +kernel
  obtain ⟨a, b, c, d⟩ := U
  obtain ⟨v, hv⟩ := key a b c d
  exact ⟨((v.val : Nat) : Int), ⟨by omega, by have := v.isLt; omega⟩, hv⟩
theorem b4_0 : b4 0 = (false, false, false, false) := by decide +kernel
theorem bI_mul (b : Bool) (r : Int) : bI b * r = if b = true then r else 0 := by cases b <;> simp [bI]
theorem NN_r (W : Nat → B4) (U : B4) : ∀ n : Nat, 0 ≤ NN W U n ∧ NN W U n ≤ (n : Int)
  | 0 => ⟨Int.le_refl _, Int.le_refl _⟩
  | n + 1 => by
    have h1 := NN_r W U n
    have h2 := ou_r (W (4 - n)) U
    show 0 ≤ ou (W (4 - n)) U + NN W U n ∧ ou (W (4 - n)) U + NN W U n ≤ ((n + 1 : Nat) : Int)
    omega
def R2 (R : Nat → Int) : Prop := ∀ k, k < 4 → 0 ≤ R k ∧ R k ≤ 2
theorem R2.p {R : Nat → Int} (h : R2 R) : Rp R := fun k hk => (h k hk).1
theorem rU_r {R : Nat → Int} (h : R2 R) (U : B4) : 0 ≤ rU R U ∧ rU R U ≤ 8 := by
  have h0 := h 0 (by decide)
  have h1 := h 1 (by decide)
  have h2 := h 2 (by decide)
  have h3 := h 3 (by decide)
  unfold rU
  split <;> split <;> split <;> split <;> omega
def W15 (m : Nat → Nat → Int) : Prop := ∀ p, p < 5 → 0 ≤ m 42 p ∧ m 42 p ≤ 15
theorem rU_0 (R : Nat → Int) : rU R (false, false, false, false) = 0 := by simp [rU]
theorem gf_fin {W : Nat → B4} {n : Nat} (hn : n ≤ 5) {R : Nat → Int} (hR : R2 R) {l : Int} (hA : ∀ v : Int, 0 ≤ v → v ≤ 15 → l ≤ ct W n R (b4 v)) (hB : l = 5 ∨ ∃ v : Int, l = ct W n R (b4 v)) : l = gg W n R := by
  obtain ⟨U, hU⟩ := gg_ge W n R hR.p
  obtain ⟨v, hv, rfl⟩ := b4_s U
  have h1 := hA v hv.1 hv.2
  rcases hB with h | ⟨v', h⟩
  · have h2 := gg_le W n R (b4 0) hR.p
    have h3 : ct W n R (b4 0) = NN W (b4 0) n := by
      show rU R (b4 0) + NN W (b4 0) n = _
      rw [b4_0, rU_0]
      omega
    have h4 := NN_r W (b4 0) n
    omega
  · have h2 := gg_le W n R (b4 v') hR.p
    omega
theorem gg_r {W : Nat → B4} {n : Nat} (hn : n ≤ 5) {R : Nat → Int} (hR : R2 R) : 0 ≤ gg W n R ∧ gg W n R ≤ 5 := by
  obtain ⟨U, hU⟩ := gg_ge W n R hR.p
  have h2 := gg_le W n R (b4 0) hR.p
  have h3 : ct W n R (b4 0) = NN W (b4 0) n := by
    show rU R (b4 0) + NN W (b4 0) n = _
    rw [b4_0, rU_0]
    omega
  have h4 := NN_r W (b4 0) n
  have h5 := NN_r W U n
  have h6 := rU_r hR U
  have h7 : ct W n R U = rU R U + NN W U n := rfl
  omega
theorem t106 {m : Nat → Nat → Int} {x : Int} (rx : -2147483648 ≤ x ∧ x ≤ 2147483647) {y : Int} (ry : -2147483648 ≤ y ∧ y ≤ 2147483647) : h_M 106 [fi (x), fi (y)] m (some (fi (max x y))) m := h_M_of (R := ev_r106) rfl (fun hc hw hm => by
  have hL : f_L (lv_args 0 [fi (x), fi (y)]) [(0, fi (x)), (1, fi (y))] := f_L_of rfl
  generalize lv_args 0 [fi (x), fi (y)] = L at hL
  show x_W none (1, 0, 2, 2, 0, 0, 0, 0, 0, ev_t106) 0 L [] hc 0 0 _
  have hR := gi_R hm
  refine f_iln 0 rfl hL rfl ?_
  refine f_iln 1 rfl hL rfl ?_
  refine f_ic rfl rx ry (fun c1 => ?_) (fun c1 => ?_)
  · have c1 : (x : Int) < (y : Int) := c1
    refine f_iln 1 rfl hL rfl ?_
    exact f_ret1 rfl ⟨by rw [show max x y = y by omega], hw, hm⟩
  · have c1 : ¬ ((x : Int) < (y : Int)) := c1
    refine f_iln 0 rfl hL rfl ?_
    refine f_goto rfl ?_
    exact f_ret1 rfl ⟨by rw [show max x y = x by omega], hw, hm⟩)
theorem t108 {m : Nat → Nat → Int} {x : Int} (rx : -2147483648 ≤ x ∧ x ≤ 2147483647) {y : Int} (ry : -2147483648 ≤ y ∧ y ≤ 2147483647) : h_M 108 [fi (x), fi (y)] m (some (fi (min x y))) m := h_M_of (R := ev_r108) rfl (fun hc hw hm => by
  have hL : f_L (lv_args 0 [fi (x), fi (y)]) [(0, fi (x)), (1, fi (y))] := f_L_of rfl
  generalize lv_args 0 [fi (x), fi (y)] = L at hL
  show x_W none (1, 0, 2, 2, 0, 0, 0, 0, 0, ev_t108) 0 L [] hc 0 0 _
  have hR := gi_R hm
  refine f_iln 0 rfl hL rfl ?_
  refine f_iln 1 rfl hL rfl ?_
  refine f_ic rfl rx ry (fun c1 => ?_) (fun c1 => ?_)
  · have c1 : (y : Int) < (x : Int) := c1
    refine f_iln 1 rfl hL rfl ?_
    exact f_ret1 rfl ⟨by rw [show min x y = y by omega], hw, hm⟩
  · have c1 : ¬ ((y : Int) < (x : Int)) := c1
    refine f_iln 0 rfl hL rfl ?_
    refine f_goto rfl ?_
    exact f_ret1 rfl ⟨by rw [show min x y = x by omega], hw, hm⟩)
theorem rmOf {m : Nat → Nat → Int} {u : Int} (hu : 0 ≤ u ∧ u ≤ 15) : (((0 + ((iA (iR (u) (0)) (1)) * (m 43 0))) + ((iA (iR (u) (1)) (1)) * (m 43 1))) + ((iA (iR (u) (2)) (1)) * (m 43 2))) + ((iA (iR (u) (3)) (1)) * (m 43 3)) = rU (m 43) (b4 u) := by
  obtain ⟨e0, e1, e2, e3⟩ := tb_e hu
  rw [e0, e1, e2, e3, bI_mul, bI_mul, bI_mul, bI_mul]
  show _ = (if tB u 0 = true then m 43 0 else 0) + (if tB u 1 = true then m 43 1 else 0) + (if tB u 2 = true then m 43 2 else 0) + (if tB u 3 = true then m 43 3 else 0)
  omega
theorem t105 {m : Nat → Nat → Int} {u : Int} (hu : 0 ≤ u ∧ u ≤ 15) : h_M 105 [.ref 41, fi (u)] m (some (fi (rU (m 43) (b4 u)))) m := h_M_of (R := ev_r105) rfl (fun hc hw hm => by
  have hL : f_L (lv_args 0 [.ref 41, fi (u)]) [(0, .ref 41), (1, fi (u))] := f_L_of rfl
  generalize lv_args 0 [.ref 41, fi (u)] = L at hL
  show x_W none (1, 0, 4, 1, 4, 0, 0, 0, 0, ev_t105) 0 L [] hc 0 0 _
  have hR := gi_R hm
  refine f_s [fi (0)] rfl rfl ?_
  refine f_istn [(2, fi (0)), (0, .ref 41), (1, fi (u))] rfl (by decide) hL rfl (fun L1 hL1 => ?_)
  refine f_s [fi (0)] rfl rfl ?_
  refine f_istn [(3, fi (0)), (2, fi (0)), (0, .ref 41), (1, fi (u))] rfl (by decide) hL1 rfl (fun L2 hL2 => ?_)
  refine f_iln 0 rfl hL2 rfl ?_
  refine f_s [fi (4), fi (0)] rfl rfl ?_
  refine f_ic rfl (by decide) (by decide) (fun c_9 => absurd (show (4 : Int) ≤ (0 : Int) from c_9) (by decide)) (fun _ => ?_)
  refine f_iln 1 rfl hL2 rfl ?_
  refine f_iln 3 rfl hL2 rfl ?_
  refine f_iln 0 rfl hL2 rfl ?_
  refine b_ishr rfl ?_
  refine f_s [fi (1), fi (iR (u) (0)), fi (0)] rfl rfl ?_
  refine b_iand rfl ?_
  refine f_aln 2 rfl hL2 rfl ?_
  refine m_gfr so41 rfl hw rfl (by decide) ?_
  refine f_iln 0 rfl hL2 rfl ?_
  refine m_ia sa43 (m 43 0) rfl hw hm (by omega) (by omega) (by decide) rfl ?_
  refine f_imul rfl ?_
  refine f_iadd rfl ?_
  refine f_istn [(2, fi (0 + ((iA (iR (u) (0)) (1)) * (m 43 0)))), (3, fi (0)), (0, .ref 41), (1, fi (u))] rfl (by decide) hL2 rfl (fun L3 hL3 => ?_)
  refine f_inc 1 [(3, fi (1)), (2, fi (0 + ((iA (iR (u) (0)) (1)) * (m 43 0)))), (0, .ref 41), (1, fi (u))] rfl (by decide) hL3 rfl rfl (fun L4 hL4 => ?_)
  refine f_goto rfl ?_
  refine f_iln 0 rfl hL4 rfl ?_
  refine f_s [fi (4), fi (1)] rfl rfl ?_
  refine f_ic rfl (by decide) (by decide) (fun c_9 => absurd (show (4 : Int) ≤ (1 : Int) from c_9) (by decide)) (fun _ => ?_)
  refine f_iln 1 rfl hL4 rfl ?_
  refine f_iln 3 rfl hL4 rfl ?_
  refine f_iln 0 rfl hL4 rfl ?_
  refine b_ishr rfl ?_
  refine f_s [fi (1), fi (iR (u) (1)), fi (0 + ((iA (iR (u) (0)) (1)) * (m 43 0)))] rfl rfl ?_
  refine b_iand rfl ?_
  refine f_aln 2 rfl hL4 rfl ?_
  refine m_gfr so41 rfl hw rfl (by decide) ?_
  refine f_iln 0 rfl hL4 rfl ?_
  refine m_ia sa43 (m 43 1) rfl hw hm (by omega) (by omega) (by decide) rfl ?_
  refine f_imul rfl ?_
  refine f_iadd rfl ?_
  refine f_istn [(2, fi ((0 + ((iA (iR (u) (0)) (1)) * (m 43 0))) + ((iA (iR (u) (1)) (1)) * (m 43 1)))), (3, fi (1)), (0, .ref 41), (1, fi (u))] rfl (by decide) hL4 rfl (fun L5 hL5 => ?_)
  refine f_inc 1 [(3, fi (2)), (2, fi ((0 + ((iA (iR (u) (0)) (1)) * (m 43 0))) + ((iA (iR (u) (1)) (1)) * (m 43 1)))), (0, .ref 41), (1, fi (u))] rfl (by decide) hL5 rfl rfl (fun L6 hL6 => ?_)
  refine f_goto rfl ?_
  refine f_iln 0 rfl hL6 rfl ?_
  refine f_s [fi (4), fi (2)] rfl rfl ?_
  refine f_ic rfl (by decide) (by decide) (fun c_9 => absurd (show (4 : Int) ≤ (2 : Int) from c_9) (by decide)) (fun _ => ?_)
  refine f_iln 1 rfl hL6 rfl ?_
  refine f_iln 3 rfl hL6 rfl ?_
  refine f_iln 0 rfl hL6 rfl ?_
  refine b_ishr rfl ?_
  refine f_s [fi (1), fi (iR (u) (2)), fi ((0 + ((iA (iR (u) (0)) (1)) * (m 43 0))) + ((iA (iR (u) (1)) (1)) * (m 43 1)))] rfl rfl ?_
  refine b_iand rfl ?_
  refine f_aln 2 rfl hL6 rfl ?_
  refine m_gfr so41 rfl hw rfl (by decide) ?_
  refine f_iln 0 rfl hL6 rfl ?_
  refine m_ia sa43 (m 43 2) rfl hw hm (by omega) (by omega) (by decide) rfl ?_
  refine f_imul rfl ?_
  refine f_iadd rfl ?_
  refine f_istn [(2, fi (((0 + ((iA (iR (u) (0)) (1)) * (m 43 0))) + ((iA (iR (u) (1)) (1)) * (m 43 1))) + ((iA (iR (u) (2)) (1)) * (m 43 2)))), (3, fi (2)), (0, .ref 41), (1, fi (u))] rfl (by decide) hL6 rfl (fun L7 hL7 => ?_)
  refine f_inc 1 [(3, fi (3)), (2, fi (((0 + ((iA (iR (u) (0)) (1)) * (m 43 0))) + ((iA (iR (u) (1)) (1)) * (m 43 1))) + ((iA (iR (u) (2)) (1)) * (m 43 2)))), (0, .ref 41), (1, fi (u))] rfl (by decide) hL7 rfl rfl (fun L8 hL8 => ?_)
  refine f_goto rfl ?_
  refine f_iln 0 rfl hL8 rfl ?_
  refine f_s [fi (4), fi (3)] rfl rfl ?_
  refine f_ic rfl (by decide) (by decide) (fun c_9 => absurd (show (4 : Int) ≤ (3 : Int) from c_9) (by decide)) (fun _ => ?_)
  refine f_iln 1 rfl hL8 rfl ?_
  refine f_iln 3 rfl hL8 rfl ?_
  refine f_iln 0 rfl hL8 rfl ?_
  refine b_ishr rfl ?_
  refine f_s [fi (1), fi (iR (u) (3)), fi (((0 + ((iA (iR (u) (0)) (1)) * (m 43 0))) + ((iA (iR (u) (1)) (1)) * (m 43 1))) + ((iA (iR (u) (2)) (1)) * (m 43 2)))] rfl rfl ?_
  refine b_iand rfl ?_
  refine f_aln 2 rfl hL8 rfl ?_
  refine m_gfr so41 rfl hw rfl (by decide) ?_
  refine f_iln 0 rfl hL8 rfl ?_
  refine m_ia sa43 (m 43 3) rfl hw hm (by omega) (by omega) (by decide) rfl ?_
  refine f_imul rfl ?_
  refine f_iadd rfl ?_
  refine f_istn [(2, fi ((((0 + ((iA (iR (u) (0)) (1)) * (m 43 0))) + ((iA (iR (u) (1)) (1)) * (m 43 1))) + ((iA (iR (u) (2)) (1)) * (m 43 2))) + ((iA (iR (u) (3)) (1)) * (m 43 3)))), (3, fi (3)), (0, .ref 41), (1, fi (u))] rfl (by decide) hL8 rfl (fun L9 hL9 => ?_)
  refine f_inc 1 [(3, fi (4)), (2, fi ((((0 + ((iA (iR (u) (0)) (1)) * (m 43 0))) + ((iA (iR (u) (1)) (1)) * (m 43 1))) + ((iA (iR (u) (2)) (1)) * (m 43 2))) + ((iA (iR (u) (3)) (1)) * (m 43 3)))), (0, .ref 41), (1, fi (u))] rfl (by decide) hL9 rfl rfl (fun L10 hL10 => ?_)
  refine f_goto rfl ?_
  refine f_iln 0 rfl hL10 rfl ?_
  refine f_s [fi (4), fi (4)] rfl rfl ?_
  refine f_ic rfl (by decide) (by decide) (fun _ => ?_) (fun c_9 => absurd (show (4 : Int) ≤ (4 : Int) from (by decide)) c_9)
  refine f_iln 1 rfl hL10 rfl ?_
  exact f_ret1 rfl ⟨by rw [rmOf hu], hw, hm⟩)
theorem t107 {m : Nat → Nat → Int} {u : Int} (hu : 0 ≤ u ∧ u ≤ 15) {i : Int} {n : Nat} (hi : 0 ≤ i ∧ i + n = 5) (hw15 : W15 m) : h_M 107 [.ref 41, fi (u), fi (i)] m (some (fi (NN (Wm m) (b4 u) n))) m := h_M_of (R := ev_r107) rfl (fun hc hw hm => by
  have hL : f_L (lv_args 0 [.ref 41, fi (u), fi (i)]) [(0, .ref 41), (1, fi (u)), (2, fi (i))] := f_L_of rfl
  generalize lv_args 0 [.ref 41, fi (u), fi (i)] = L at hL
  show x_W none (1, 0, 5, 2, 4, 1, 21, 0, 0, ev_t107) 0 L [] hc 0 0 _
  have hR := gi_R hm
  have hK : ∀ (n : Nat) (hc : ev_H) (p s : Int) (L : ev_L), y_in yGw hc → gi hc = m → (0 ≤ p ∧ p + n = 5) → f_L L [(4, fi (p)), (3, fi (s)), (0, .ref 41), (1, fi (u)), (2, fi (i))] → x_W none (1, 0, 5, 2, 4, 1, 21, 0, 0, ev_t107) 9 L [] hc 0 0 (fun r' h' => r' = some (fi (s + NN (Wm m) (b4 u) n)) ∧ y_in yGw h' ∧ gi h' = m) := by
    intro n
    induction n with
    | zero =>
      intro hc p s L hw hm hp9 hL
      refine f_il 0 rfl hL rfl ?_
      refine f_s [fi (5), fi (p)] rfl rfl ?_
      refine f_ic rfl (by omega) (by decide) (fun _ => ?_) (fun c_9 => absurd (show (5 : Int) ≤ (p : Int) from (by omega)) c_9)
      refine f_iln 1 rfl hL rfl ?_
      exact f_ret1 rfl ⟨by rw [show NN (Wm m) (b4 u) 0 = 0 from rfl, Int.add_zero], hw, hm⟩
    | succ n ih =>
      intro hc p s L hw hm hp9 hL
      refine f_il 0 rfl hL rfl ?_
      refine f_s [fi (5), fi (p)] rfl rfl ?_
      refine f_ic rfl (by omega) (by decide) (fun c_9 => absurd (show (5 : Int) ≤ (p : Int) from c_9) (by omega)) (fun _ => ?_)
      refine f_iln 1 rfl hL rfl ?_
      refine f_aln 2 rfl hL rfl ?_
      refine m_gfr so41 rfl hw rfl (by decide) ?_
      refine f_il 0 rfl hL rfl ?_
      refine m_ia sa42 (m 42 (p).toNat) rfl hw hm (by omega) (by omega) (by decide) rfl ?_
      refine f_iln 3 rfl hL rfl ?_
      refine f_s [fi (-1), fi (u), fi (m 42 (p).toNat), fi (s)] rfl rfl ?_
      refine b_ixor rfl ?_
      refine b_iand rfl ?_
      have e1 : (p).toNat = 4 - n := by omega
      have e2 := ou_b (hw15 (p).toNat (by omega)) hu
      have e3 : NN (Wm m) (b4 u) (n + 1) = ou (b4 (m 42 (p).toNat)) (b4 u) + NN (Wm m) (b4 u) n := by rw [e1]; rfl
      refine f_if rfl iA_r (fun c1 => ?_) (fun c1 => ?_)
      · have c1 : (iA (m 42 (p).toNat) (iX (u) (-1)) : Int) = (0 : Int) := c1
        refine f_s [fi (0), fi (s)] rfl rfl ?_
        refine f_iadd rfl ?_
        refine f_istn [(3, fi (s + 0)), (4, fi (p)), (0, .ref 41), (1, fi (u)), (2, fi (i))] rfl (by decide) hL rfl (fun L1 hL1 => ?_)
        refine f_inc 1 [(4, fi (p + 1)), (3, fi (s + 0)), (0, .ref 41), (1, fi (u)), (2, fi (i))] rfl (by decide) hL1 rfl rfl (fun L2 hL2 => ?_)
        refine f_goto rfl ?_
        rw [show s + NN (Wm m) (b4 u) (n + 1) = (s + 0) + NN (Wm m) (b4 u) n by rw [e3, ← e2, decide_eq_false (fun z => z c1)]; show s + ((0 : Int) + _) = _; omega]
        exact ih hc _ _ _ hw hm (by omega) (hL2.sel [0, 1, 2, 3, 4] rfl)
      · have c1 : ¬ ((iA (m 42 (p).toNat) (iX (u) (-1)) : Int) = (0 : Int)) := c1
        refine f_s [fi (1), fi (s)] rfl rfl ?_
        refine f_goto rfl ?_
        refine f_iadd rfl ?_
        refine f_istn [(3, fi (s + 1)), (4, fi (p)), (0, .ref 41), (1, fi (u)), (2, fi (i))] rfl (by decide) hL rfl (fun L3 hL3 => ?_)
        refine f_inc 1 [(4, fi (p + 1)), (3, fi (s + 1)), (0, .ref 41), (1, fi (u)), (2, fi (i))] rfl (by decide) hL3 rfl rfl (fun L4 hL4 => ?_)
        refine f_goto rfl ?_
        rw [show s + NN (Wm m) (b4 u) (n + 1) = (s + 1) + NN (Wm m) (b4 u) n by rw [e3, ← e2, decide_eq_true c1]; show s + ((1 : Int) + _) = _; omega]
        exact ih hc _ _ _ hw hm (by omega) (hL4.sel [0, 1, 2, 3, 4] rfl)
  refine f_s [fi (0)] rfl rfl ?_
  refine f_istn [(3, fi (0)), (0, .ref 41), (1, fi (u)), (2, fi (i))] rfl (by decide) hL rfl (fun L5 hL5 => ?_)
  refine f_s [fi (0)] rfl rfl ?_
  refine f_iln 3 rfl hL5 rfl ?_
  refine m_k1 (t106 (x := 0) (y := i) (by decide) (by omega)) hw hm rfl rfl rfl rfl rfl (fun hc1 hw1 hm1 => ?_)
  refine b_eq (x := i) (by omega) ?_
  refine f_ist [(4, fi (i)), (3, fi (0)), (0, .ref 41), (1, fi (u)), (2, fi (i))] rfl (by decide) hL5 rfl (fun L6 hL6 => ?_)
  rw [show NN (Wm m) (b4 u) n = 0 + NN (Wm m) (b4 u) n by omega]
  exact hK n hc1 i 0 _ hw1 hm1 (by omega) (hL6.sel [0, 1, 2, 3, 4] rfl))
theorem t109 {m : Nat → Nat → Int} {i : Int} {n : Nat} (hi : 0 ≤ i ∧ i + n = 5) (hw15 : W15 m) (hr : R2 (m 43)) : h_M 109 [.ref 41, fi (i)] m (some (fi (gg (Wm m) n (m 43)))) m := h_M_of (R := ev_r109) rfl (fun hc hw hm => by
  have hL : f_L (lv_args 0 [.ref 41, fi (i)]) [(0, .ref 41), (1, fi (i))] := f_L_of rfl
  generalize lv_args 0 [.ref 41, fi (i)] = L at hL
  show x_W none (1, 0, 4, 1, 4, 2, 45, 0, 0, ev_t109) 0 L [] hc 0 0 _
  have hR := gi_R hm
  have hK : ∀ (q : Nat) (hc : ev_H) (u l : Int) (L : ev_L), y_in yGw hc → gi hc = m → (0 ≤ u ∧ u + q = 16) → (0 ≤ l ∧ l ≤ 5) → (∀ v : Int, 0 ≤ v → v < u → l ≤ ct (Wm m) n (m 43) (b4 v)) → (l = 5 ∨ ∃ v : Int, l = ct (Wm m) n (m 43) (b4 v)) → f_L L [(3, fi (u)), (2, fi (l)), (0, .ref 41), (1, fi (i))] → x_W none (1, 0, 4, 1, 4, 2, 45, 0, 0, ev_t109) 4 L [] hc 0 0 (fun r' h' => r' = some (fi (gg (Wm m) n (m 43))) ∧ y_in yGw h' ∧ gi h' = m) := by
    intro q
    induction q with
    | zero =>
      intro hc u l L hw hm hu hl hA hB hL
      refine f_iln 0 rfl hL rfl ?_
      refine f_bipush (n := 16) rfl (by decide) ?_
      refine f_ic rfl (by omega) (by decide) (fun _ => ?_) (fun c_9 => absurd (show (16 : Int) ≤ (u : Int) from (by omega)) c_9)
      refine f_iln 1 rfl hL rfl ?_
      exact f_ret1 rfl ⟨by rw [gf_fin (by omega) hr (fun v h1 h2 => hA v h1 (by omega)) hB], hw, hm⟩
    | succ q ih =>
      intro hc u l L hw hm hu hl hA hB hL
      refine f_iln 0 rfl hL rfl ?_
      refine f_bipush (n := 16) rfl (by decide) ?_
      refine f_ic rfl (by omega) (by decide) (fun c_9 => absurd (show (16 : Int) ≤ (u : Int) from c_9) (by omega)) (fun _ => ?_)
      refine f_iln 1 rfl hL rfl ?_
      refine f_aln 2 rfl hL rfl ?_
      refine f_iln 0 rfl hL rfl ?_
      refine m_k1 (t105 (u := u) (by omega)) hw hm rfl rfl rfl (m_ar so41 hw rfl) rfl (fun hc1 hw1 hm1 => ?_)
      refine f_aln 2 rfl hL rfl ?_
      refine f_iln 0 rfl hL rfl ?_
      refine f_iln 3 rfl hL rfl ?_
      refine m_k1 (t107 (u := u) (by omega) hi hw15) hw1 hm1 rfl rfl rfl (m_ar so41 hw1 rfl) rfl (fun hc2 hw2 hm2 => ?_)
      refine f_iadd rfl ?_
      have r1 := rU_r hr (b4 u)
      have r2 := NN_r (Wm m) (b4 u) n
      have e1 : rU (m 43) (b4 u) + NN (Wm m) (b4 u) n = ct (Wm m) n (m 43) (b4 u) := rfl
      refine b_eq (x := ct (Wm m) n (m 43) (b4 u)) rfl ?_
      refine m_k1 (t108 (x := l) (y := ct (Wm m) n (m 43) (b4 u)) (by omega) (by omega)) hw2 hm2 rfl rfl rfl rfl rfl (fun hc3 hw3 hm3 => ?_)
      refine f_istn [(2, fi (min l (ct (Wm m) n (m 43) (b4 u)))), (3, fi (u)), (0, .ref 41), (1, fi (i))] rfl (by decide) hL rfl (fun L1 hL1 => ?_)
      refine f_inc 1 [(3, fi (u + 1)), (2, fi (min l (ct (Wm m) n (m 43) (b4 u)))), (0, .ref 41), (1, fi (i))] rfl (by decide) hL1 rfl rfl (fun L2 hL2 => ?_)
      refine f_goto rfl ?_
      refine ih hc3 _ _ _ hw3 hm3 (by omega) (by omega) (fun v h1 h2 => ?_) ?_ (hL2.sel [0, 1, 2, 3] rfl)
      · by_cases h3 : v < u
        · have := hA v h1 h3
          omega
        · have : v = u := by omega
          subst this
          omega
      · by_cases h3 : l ≤ ct (Wm m) n (m 43) (b4 u)
        · rw [show min l (ct (Wm m) n (m 43) (b4 u)) = l by omega]
          exact hB
        · rw [show min l (ct (Wm m) n (m 43) (b4 u)) = ct (Wm m) n (m 43) (b4 u) by omega]
          exact Or.inr ⟨u, rfl⟩
  refine f_s [fi (5)] rfl rfl ?_
  refine f_istn [(2, fi (5)), (0, .ref 41), (1, fi (i))] rfl (by decide) hL rfl (fun L3 hL3 => ?_)
  refine f_s [fi (0)] rfl rfl ?_
  refine f_istn [(3, fi (0)), (2, fi (5)), (0, .ref 41), (1, fi (i))] rfl (by decide) hL3 rfl (fun L4 hL4 => ?_)
  exact hK 16 hc 0 5 _ hw hm (by decide) (by decide) (fun v h1 h2 => absurd h1 (by omega)) (Or.inl rfl) (hL4.sel [0, 1, 2, 3] rfl))
theorem t110 {m : Nat → Nat → Int} (hw15 : W15 m) (hr : R2 (m 43)) : h_M 110 [.ref 41] m (some (fi (gg (Wm m) 5 (m 43)))) m := h_M_of (R := ev_r110) rfl (fun hc hw hm => by
  have hL : f_L (lv_args 0 [.ref 41]) [(0, .ref 41)] := f_L_of rfl
  generalize lv_args 0 [.ref 41] = L at hL
  show x_W none (1, 0, 1, 0, 4, 3, 68, 0, 0, ev_t110) 0 L [] hc 0 0 _
  have hR := gi_R hm
  refine f_aln 0 rfl hL rfl ?_
  refine f_s [fi (0), .ref 41] rfl rfl ?_
  refine m_k1 (t109 (i := 0) (n := 5) (by decide) hw15 hr) hw hm rfl rfl rfl (m_ar so41 hw rfl) rfl (fun hc1 hw1 hm1 => ?_)
  exact f_ret1 rfl ⟨rfl, hw1, hm1⟩)
theorem up_43 (m : Nat → Nat → Int) (k : Nat) : (up m 43 k (m 43 k - 1)) 43 = dcr (m 43) k := by
  funext i
  show (if 43 = 43 ∧ i = k then m 43 k - 1 else m 43 i) = (if i = k then m 43 i - 1 else m 43 i)
  by_cases h : i = k
  · subst h; rw [if_pos ⟨rfl, rfl⟩, if_pos rfl]
  · rw [if_neg (fun z => h z.2), if_neg h]
theorem up_back (m : Nat → Nat → Int) (q k : Nat) (v x : Int) (hx : x = m q k) : up (up m q k v) q k x = m := by
  funext a i
  show (if a = q ∧ i = k then x else if a = q ∧ i = k then v else m a i) = m a i
  by_cases h : a = q ∧ i = k
  · rw [if_pos h, h.1, h.2]; exact hx
  · rw [if_neg h, if_neg h]
theorem Wm_43 (m : Nat → Nat → Int) (k : Nat) (v : Int) : Wm (up m 43 k v) = Wm m := by
  funext p
  show b4 (up m 43 k v 42 p) = b4 (m 42 p)
  rw [up_nc (by decide)]
theorem R2.dcr {R : Nat → Int} (h : R2 R) {k : Nat} (hk : 0 < R k) : R2 (dcr R k) := fun j hj => by
  have := h j hj
  show 0 ≤ (if j = k then R j - 1 else R j) ∧ (if j = k then R j - 1 else R j) ≤ 2
  split
  · rename_i e; subst e; omega
  · exact this
def gvC (W : Nat → B4) (n : Nat) (R : Nat → Int) (left : Int) (k : Nat) : Bool := bk (W (4 - n)) k && (decide (0 < R k) && decide (left - 1 ≤ gg W n (dcr R k)))
def gv4 (_ : Nat → B4) (_ : Nat) (_ : Nat → Int) (_ : Int) : Nat := 0
def gv3 (W : Nat → B4) (n : Nat) (R : Nat → Int) (left : Int) : Nat := if gvC W n R left 3 = true then 4 else gv4 W n R left
def gv2 (W : Nat → B4) (n : Nat) (R : Nat → Int) (left : Int) : Nat := if gvC W n R left 2 = true then 3 else gv3 W n R left
def gv1 (W : Nat → B4) (n : Nat) (R : Nat → Int) (left : Int) : Nat := if gvC W n R left 1 = true then 2 else gv2 W n R left
def gv0 (W : Nat → B4) (n : Nat) (R : Nat → Int) (left : Int) : Nat := if gvC W n R left 0 = true then 1 else gv1 W n R left
def gvF (W : Nat → B4) (n : Nat) (R : Nat → Int) (left : Int) : Nat := if left ≤ gg W n R then 0 else gv0 W n R left
def roG (m : Nat → Nat → Int) (R : Nat → Int) : Nat → Nat → Int := fun q i => if q = 43 then R i else m q i
theorem roG_0 (m : Nat → Nat → Int) : roG m (m 43) = m := by
  funext q i
  show (if q = 43 then m 43 i else m q i) = m q i
  split
  · rename_i h; subst h; rfl
  · rfl
theorem roG_d (m : Nat → Nat → Int) (k : Nat) : up m 43 k (m 43 k - 1) = roG m (dcr (m 43) k) := by
  funext q i
  show (if q = 43 ∧ i = k then m 43 k - 1 else m q i) = (if q = 43 then (if i = k then m 43 i - 1 else m 43 i) else m q i)
  by_cases h : q = 43
  · subst h
    rw [if_pos rfl]
    by_cases h2 : i = k
    · subst h2; rw [if_pos ⟨rfl, rfl⟩, if_pos rfl]
    · rw [if_neg (fun z => h2 z.2), if_neg h2]
  · rw [if_neg (fun z => h z.1), if_neg h]
theorem t109_d {m : Nat → Nat → Int} {i : Int} {n : Nat} (hi : 0 ≤ i ∧ i + n = 5) (hw15 : W15 m) (hr : R2 (m 43)) {k : Nat} (hk : 0 < m 43 k) : h_M 109 [.ref 41, fi (i)] (up m 43 k (m 43 k - 1)) (some (fi (gg (Wm m) n (dcr (m 43) k)))) (up m 43 k (m 43 k - 1)) := by
  have h := t109 (m := up m 43 k (m 43 k - 1)) hi (fun p hp => by rw [up_nc (by decide)]; exact hw15 p hp) (by rw [up_43]; exact hr.dcr hk)
  rw [Wm_43, up_43] at h
  exact h
set_option maxHeartbeats 1000000 in
theorem t111 {m : Nat → Nat → Int} {p t : Int} {n : Nat} (hp9 : 0 ≤ p ∧ p + n = 4) (ht : -10 ≤ t ∧ t ≤ 10) (hw15 : W15 m) (hr : R2 (m 43)) : h_M 111 [.ref 41, fi (p), fi (t)] m (some (fi ((gvF (Wm m) n (m 43) t : Int)))) (roG m (Rd (m 43) (gvF (Wm m) n (m 43) t))) := h_M_of (R := ev_r111) rfl (fun hc hw hm => by
  have hL : f_L (lv_args 0 [.ref 41, fi (p), fi (t)]) [(0, .ref 41), (1, fi (p)), (2, fi (t))] := f_L_of rfl
  generalize lv_args 0 [.ref 41, fi (p), fi (t)] = L at hL
  show x_W none (1, 0, 4, 2, 4, 3, 68, 0, 0, ev_t111) 0 L [] hc 0 0 _
  have hR := gi_R hm
  have e1 : (p).toNat = 4 - n := by omega
  have hK4 : ∀ (hc : ev_H) (L : ev_L), y_in yGw hc → gi hc = m → f_L L [(3, fi (4)), (0, .ref 41), (1, fi (p)), (2, fi (t))] → x_W none (1, 0, 4, 2, 4, 3, 68, 0, 0, ev_t111) 24 L [] hc 0 0 (fun r' h' => r' = some (fi ((gv4 (Wm m) n (m 43) t : Int))) ∧ y_in yGw h' ∧ gi h' = roG m (Rd (m 43) (gv4 (Wm m) n (m 43) t))) := fun hc L hw hm hL => by
    refine f_iln 0 rfl hL rfl ?_
    refine f_s [fi (4), fi (4)] rfl rfl ?_
    refine f_ic rfl (by decide) (by decide) (fun _ => ?_) (fun c_9 => absurd (show (4 : Int) ≤ (4 : Int) from (by decide)) c_9)
    refine f_s [fi (0)] rfl rfl ?_
    exact f_ret1 rfl ⟨rfl, hw, (hm.trans (roG_0 m).symm)⟩
  have hK3 : ∀ (hc : ev_H) (L : ev_L), y_in yGw hc → gi hc = m → f_L L [(3, fi (3)), (0, .ref 41), (1, fi (p)), (2, fi (t))] → x_W none (1, 0, 4, 2, 4, 3, 68, 0, 0, ev_t111) 24 L [] hc 0 0 (fun r' h' => r' = some (fi ((gv3 (Wm m) n (m 43) t : Int))) ∧ y_in yGw h' ∧ gi h' = roG m (Rd (m 43) (gv3 (Wm m) n (m 43) t))) := fun hc L hw hm hL => by
    refine f_iln 0 rfl hL rfl ?_
    refine f_s [fi (4), fi (3)] rfl rfl ?_
    refine f_ic rfl (by decide) (by decide) (fun c_9 => absurd (show (4 : Int) ≤ (3 : Int) from c_9) (by decide)) (fun _ => ?_)
    refine f_aln 1 rfl hL rfl ?_
    refine m_gfr so41 rfl hw rfl (by decide) ?_
    refine f_iln 2 rfl hL rfl ?_
    refine m_ia sa42 (m 42 (p).toNat) rfl hw hm (by omega) (by omega) (by decide) rfl ?_
    refine f_iln 0 rfl hL rfl ?_
    refine b_ishr rfl ?_
    refine f_s [fi (1), fi (iR (m 42 (p).toNat) (3))] rfl rfl ?_
    refine b_iand rfl ?_
    refine f_s [fi (1), fi (iA (iR (m 42 (p).toNat) (3)) (1))] rfl rfl ?_
    refine f_ic rfl iA_r (by decide) (fun c1 => ?_) (fun c1 => ?_)
    · have c1 : ¬ (iA (iR (m 42 (p).toNat) (3)) (1) : Int) = (1 : Int) := c1
      refine f_inc 0 [(3, fi (4)), (0, .ref 41), (1, fi (p)), (2, fi (t))] rfl (by decide) hL rfl rfl (fun L1 hL1 => ?_)
      refine f_goto rfl ?_
      rw [show gv3 (Wm m) n (m 43) t = gv4 (Wm m) n (m 43) t from if_neg (by unfold gvC; rw [show bk (Wm m (4 - n)) 3 = decide (iA (iR (m 42 (p).toNat) 3) 1 = 1) by rw [← e1]; rfl, decide_eq_false (show ¬ iA (iR (m 42 (p).toNat) 3) 1 = 1 by omega), Bool.false_and]; decide)]
      exact hK4 hc _ hw hm (hL1.sel [0, 1, 2, 3] rfl)
    · have c1 : ¬ (¬ (iA (iR (m 42 (p).toNat) (3)) (1) : Int) = (1 : Int)) := c1
      have r2 := hr 3 (by decide)
      refine f_aln 1 rfl hL rfl ?_
      refine m_gfr so41 rfl hw rfl (by decide) ?_
      refine f_iln 0 rfl hL rfl ?_
      refine m_ia sa43 (m 43 3) rfl hw hm (by omega) (by omega) (by decide) rfl ?_
      refine f_if rfl (hR 43 3) (fun c2 => ?_) (fun c2 => ?_)
      · have c2 : (m 43 3 : Int) ≤ (0 : Int) := c2
        refine f_inc 0 [(3, fi (4)), (0, .ref 41), (1, fi (p)), (2, fi (t))] rfl (by decide) hL rfl rfl (fun L2 hL2 => ?_)
        refine f_goto rfl ?_
        rw [show gv3 (Wm m) n (m 43) t = gv4 (Wm m) n (m 43) t from if_neg (by unfold gvC; rw [show bk (Wm m (4 - n)) 3 = decide (iA (iR (m 42 (p).toNat) 3) 1 = 1) by rw [← e1]; rfl, decide_eq_false (show ¬ 0 < m 43 3 by omega), Bool.false_and, Bool.and_false]; decide)]
        exact hK4 hc _ hw hm (hL2.sel [0, 1, 2, 3] rfl)
      · have c2 : ¬ ((m 43 3 : Int) ≤ (0 : Int)) := c2
        refine f_aln 1 rfl hL rfl ?_
        refine m_gfr so41 rfl hw rfl (by decide) ?_
        refine f_iln 0 rfl hL rfl ?_
        refine f_s [fi (3), .ref 43, fi (3), .ref 43] rfl rfl ?_
        refine m_ia sa43 (m 43 3) rfl hw hm (by omega) (by omega) (by decide) rfl ?_
        refine f_s [fi (1), fi (m 43 3), fi (3), .ref 43] rfl rfl ?_
        refine f_isub rfl ?_
        refine m_ias sa43 rfl hw hm (by omega) (by omega) (by decide) (by omega) (fun hc1 hw1 hm1 => ?_)
        refine f_aln 1 rfl hL rfl ?_
        refine f_iln 2 rfl hL rfl ?_
        refine f_s [fi (1), fi (p), .ref 41] rfl rfl ?_
        refine f_iadd rfl ?_
        refine m_k1 (t109_d (m := m) (i := p + 1) (n := n) (k := 3) (by omega) hw15 hr (by omega)) hw1 hm1 rfl rfl rfl (m_ar so41 hw1 rfl) rfl (fun hc2 hw2 hm2 => ?_)
        have r9 := gg_r (W := Wm m) (n := n) (by omega) (hr.dcr (k := 3) (by omega))
        refine f_iln 3 rfl hL rfl ?_
        refine f_s [fi (1), fi (t), fi (gg (Wm m) n (dcr (m 43) 3))] rfl rfl ?_
        refine f_isub rfl ?_
        refine f_ic rfl (by omega) (by omega) (fun c3 => ?_) (fun c3 => ?_)
        · have c3 : (gg (Wm m) n (dcr (m 43) 3) : Int) < (t - 1 : Int) := c3
          refine f_aln 1 rfl hL rfl ?_
          refine m_gfr so41 rfl hw2 rfl (by decide) ?_
          refine f_iln 0 rfl hL rfl ?_
          refine f_s [fi (3), .ref 43, fi (3), .ref 43] rfl rfl ?_
          refine m_ia sa43 ((m 43 3) - 1) rfl hw2 hm2 (by omega) (by omega) (by decide) rfl ?_
          refine f_s [fi (1), fi ((m 43 3) - 1), fi (3), .ref 43] rfl rfl ?_
          refine f_iadd rfl ?_
          refine m_ias sa43 rfl hw2 hm2 (by omega) (by omega) (by decide) (by omega) (fun hc3 hw3 hm3 => ?_)
          refine f_inc 0 [(3, fi (4)), (0, .ref 41), (1, fi (p)), (2, fi (t))] rfl (by decide) hL rfl rfl (fun L3 hL3 => ?_)
          refine f_goto rfl ?_
          rw [show gv3 (Wm m) n (m 43) t = gv4 (Wm m) n (m 43) t from if_neg (by unfold gvC; rw [show bk (Wm m (4 - n)) 3 = decide (iA (iR (m 42 (p).toNat) 3) 1 = 1) by rw [← e1]; rfl, decide_eq_false (show ¬ t - 1 ≤ gg (Wm m) n (dcr (m 43) 3) by omega), Bool.and_false, Bool.and_false]; decide)]
          exact hK4 hc3 _ hw3 (hm3.trans (up_back m 43 3 _ _ (by omega))) (hL3.sel [0, 1, 2, 3] rfl)
        · have c3 : ¬ ((gg (Wm m) n (dcr (m 43) 3) : Int) < (t - 1 : Int)) := c3
          refine f_iln 0 rfl hL rfl ?_
          refine f_s [fi (1), fi (3)] rfl rfl ?_
          refine f_iadd rfl ?_
          refine b_eq (x := 4) (by decide) ?_
          have e9 : gv3 (Wm m) n (m 43) t = 4 := if_pos (by unfold gvC; rw [show bk (Wm m (4 - n)) 3 = decide (iA (iR (m 42 (p).toNat) 3) 1 = 1) by rw [← e1]; rfl, decide_eq_true (show iA (iR (m 42 (p).toNat) 3) 1 = 1 by omega), decide_eq_true (show 0 < m 43 3 by omega), decide_eq_true (show t - 1 ≤ gg (Wm m) n (dcr (m 43) 3) by omega)]; rfl)
          exact f_ret1 rfl ⟨by rw [e9]; rfl, hw2, (by rw [e9]; exact hm2.trans (roG_d m 3))⟩
  have hK2 : ∀ (hc : ev_H) (L : ev_L), y_in yGw hc → gi hc = m → f_L L [(3, fi (2)), (0, .ref 41), (1, fi (p)), (2, fi (t))] → x_W none (1, 0, 4, 2, 4, 3, 68, 0, 0, ev_t111) 24 L [] hc 0 0 (fun r' h' => r' = some (fi ((gv2 (Wm m) n (m 43) t : Int))) ∧ y_in yGw h' ∧ gi h' = roG m (Rd (m 43) (gv2 (Wm m) n (m 43) t))) := fun hc L hw hm hL => by
    refine f_iln 0 rfl hL rfl ?_
    refine f_s [fi (4), fi (2)] rfl rfl ?_
    refine f_ic rfl (by decide) (by decide) (fun c_9 => absurd (show (4 : Int) ≤ (2 : Int) from c_9) (by decide)) (fun _ => ?_)
    refine f_aln 1 rfl hL rfl ?_
    refine m_gfr so41 rfl hw rfl (by decide) ?_
    refine f_iln 2 rfl hL rfl ?_
    refine m_ia sa42 (m 42 (p).toNat) rfl hw hm (by omega) (by omega) (by decide) rfl ?_
    refine f_iln 0 rfl hL rfl ?_
    refine b_ishr rfl ?_
    refine f_s [fi (1), fi (iR (m 42 (p).toNat) (2))] rfl rfl ?_
    refine b_iand rfl ?_
    refine f_s [fi (1), fi (iA (iR (m 42 (p).toNat) (2)) (1))] rfl rfl ?_
    refine f_ic rfl iA_r (by decide) (fun c1 => ?_) (fun c1 => ?_)
    · have c1 : ¬ (iA (iR (m 42 (p).toNat) (2)) (1) : Int) = (1 : Int) := c1
      refine f_inc 0 [(3, fi (3)), (0, .ref 41), (1, fi (p)), (2, fi (t))] rfl (by decide) hL rfl rfl (fun L4 hL4 => ?_)
      refine f_goto rfl ?_
      rw [show gv2 (Wm m) n (m 43) t = gv3 (Wm m) n (m 43) t from if_neg (by unfold gvC; rw [show bk (Wm m (4 - n)) 2 = decide (iA (iR (m 42 (p).toNat) 2) 1 = 1) by rw [← e1]; rfl, decide_eq_false (show ¬ iA (iR (m 42 (p).toNat) 2) 1 = 1 by omega), Bool.false_and]; decide)]
      exact hK3 hc _ hw hm (hL4.sel [0, 1, 2, 3] rfl)
    · have c1 : ¬ (¬ (iA (iR (m 42 (p).toNat) (2)) (1) : Int) = (1 : Int)) := c1
      have r2 := hr 2 (by decide)
      refine f_aln 1 rfl hL rfl ?_
      refine m_gfr so41 rfl hw rfl (by decide) ?_
      refine f_iln 0 rfl hL rfl ?_
      refine m_ia sa43 (m 43 2) rfl hw hm (by omega) (by omega) (by decide) rfl ?_
      refine f_if rfl (hR 43 2) (fun c2 => ?_) (fun c2 => ?_)
      · have c2 : (m 43 2 : Int) ≤ (0 : Int) := c2
        refine f_inc 0 [(3, fi (3)), (0, .ref 41), (1, fi (p)), (2, fi (t))] rfl (by decide) hL rfl rfl (fun L5 hL5 => ?_)
        refine f_goto rfl ?_
        rw [show gv2 (Wm m) n (m 43) t = gv3 (Wm m) n (m 43) t from if_neg (by unfold gvC; rw [show bk (Wm m (4 - n)) 2 = decide (iA (iR (m 42 (p).toNat) 2) 1 = 1) by rw [← e1]; rfl, decide_eq_false (show ¬ 0 < m 43 2 by omega), Bool.false_and, Bool.and_false]; decide)]
        exact hK3 hc _ hw hm (hL5.sel [0, 1, 2, 3] rfl)
      · have c2 : ¬ ((m 43 2 : Int) ≤ (0 : Int)) := c2
        refine f_aln 1 rfl hL rfl ?_
        refine m_gfr so41 rfl hw rfl (by decide) ?_
        refine f_iln 0 rfl hL rfl ?_
        refine f_s [fi (2), .ref 43, fi (2), .ref 43] rfl rfl ?_
        refine m_ia sa43 (m 43 2) rfl hw hm (by omega) (by omega) (by decide) rfl ?_
        refine f_s [fi (1), fi (m 43 2), fi (2), .ref 43] rfl rfl ?_
        refine f_isub rfl ?_
        refine m_ias sa43 rfl hw hm (by omega) (by omega) (by decide) (by omega) (fun hc4 hw4 hm4 => ?_)
        refine f_aln 1 rfl hL rfl ?_
        refine f_iln 2 rfl hL rfl ?_
        refine f_s [fi (1), fi (p), .ref 41] rfl rfl ?_
        refine f_iadd rfl ?_
        refine m_k1 (t109_d (m := m) (i := p + 1) (n := n) (k := 2) (by omega) hw15 hr (by omega)) hw4 hm4 rfl rfl rfl (m_ar so41 hw4 rfl) rfl (fun hc5 hw5 hm5 => ?_)
        have r9 := gg_r (W := Wm m) (n := n) (by omega) (hr.dcr (k := 2) (by omega))
        refine f_iln 3 rfl hL rfl ?_
        refine f_s [fi (1), fi (t), fi (gg (Wm m) n (dcr (m 43) 2))] rfl rfl ?_
        refine f_isub rfl ?_
        refine f_ic rfl (by omega) (by omega) (fun c3 => ?_) (fun c3 => ?_)
        · have c3 : (gg (Wm m) n (dcr (m 43) 2) : Int) < (t - 1 : Int) := c3
          refine f_aln 1 rfl hL rfl ?_
          refine m_gfr so41 rfl hw5 rfl (by decide) ?_
          refine f_iln 0 rfl hL rfl ?_
          refine f_s [fi (2), .ref 43, fi (2), .ref 43] rfl rfl ?_
          refine m_ia sa43 ((m 43 2) - 1) rfl hw5 hm5 (by omega) (by omega) (by decide) rfl ?_
          refine f_s [fi (1), fi ((m 43 2) - 1), fi (2), .ref 43] rfl rfl ?_
          refine f_iadd rfl ?_
          refine m_ias sa43 rfl hw5 hm5 (by omega) (by omega) (by decide) (by omega) (fun hc6 hw6 hm6 => ?_)
          refine f_inc 0 [(3, fi (3)), (0, .ref 41), (1, fi (p)), (2, fi (t))] rfl (by decide) hL rfl rfl (fun L6 hL6 => ?_)
          refine f_goto rfl ?_
          rw [show gv2 (Wm m) n (m 43) t = gv3 (Wm m) n (m 43) t from if_neg (by unfold gvC; rw [show bk (Wm m (4 - n)) 2 = decide (iA (iR (m 42 (p).toNat) 2) 1 = 1) by rw [← e1]; rfl, decide_eq_false (show ¬ t - 1 ≤ gg (Wm m) n (dcr (m 43) 2) by omega), Bool.and_false, Bool.and_false]; decide)]
          exact hK3 hc6 _ hw6 (hm6.trans (up_back m 43 2 _ _ (by omega))) (hL6.sel [0, 1, 2, 3] rfl)
        · have c3 : ¬ ((gg (Wm m) n (dcr (m 43) 2) : Int) < (t - 1 : Int)) := c3
          refine f_iln 0 rfl hL rfl ?_
          refine f_s [fi (1), fi (2)] rfl rfl ?_
          refine f_iadd rfl ?_
          refine b_eq (x := 3) (by decide) ?_
          have e9 : gv2 (Wm m) n (m 43) t = 3 := if_pos (by unfold gvC; rw [show bk (Wm m (4 - n)) 2 = decide (iA (iR (m 42 (p).toNat) 2) 1 = 1) by rw [← e1]; rfl, decide_eq_true (show iA (iR (m 42 (p).toNat) 2) 1 = 1 by omega), decide_eq_true (show 0 < m 43 2 by omega), decide_eq_true (show t - 1 ≤ gg (Wm m) n (dcr (m 43) 2) by omega)]; rfl)
          exact f_ret1 rfl ⟨by rw [e9]; rfl, hw5, (by rw [e9]; exact hm5.trans (roG_d m 2))⟩
  have hK1 : ∀ (hc : ev_H) (L : ev_L), y_in yGw hc → gi hc = m → f_L L [(3, fi (1)), (0, .ref 41), (1, fi (p)), (2, fi (t))] → x_W none (1, 0, 4, 2, 4, 3, 68, 0, 0, ev_t111) 24 L [] hc 0 0 (fun r' h' => r' = some (fi ((gv1 (Wm m) n (m 43) t : Int))) ∧ y_in yGw h' ∧ gi h' = roG m (Rd (m 43) (gv1 (Wm m) n (m 43) t))) := fun hc L hw hm hL => by
    refine f_iln 0 rfl hL rfl ?_
    refine f_s [fi (4), fi (1)] rfl rfl ?_
    refine f_ic rfl (by decide) (by decide) (fun c_9 => absurd (show (4 : Int) ≤ (1 : Int) from c_9) (by decide)) (fun _ => ?_)
    refine f_aln 1 rfl hL rfl ?_
    refine m_gfr so41 rfl hw rfl (by decide) ?_
    refine f_iln 2 rfl hL rfl ?_
    refine m_ia sa42 (m 42 (p).toNat) rfl hw hm (by omega) (by omega) (by decide) rfl ?_
    refine f_iln 0 rfl hL rfl ?_
    refine b_ishr rfl ?_
    refine f_s [fi (1), fi (iR (m 42 (p).toNat) (1))] rfl rfl ?_
    refine b_iand rfl ?_
    refine f_s [fi (1), fi (iA (iR (m 42 (p).toNat) (1)) (1))] rfl rfl ?_
    refine f_ic rfl iA_r (by decide) (fun c1 => ?_) (fun c1 => ?_)
    · have c1 : ¬ (iA (iR (m 42 (p).toNat) (1)) (1) : Int) = (1 : Int) := c1
      refine f_inc 0 [(3, fi (2)), (0, .ref 41), (1, fi (p)), (2, fi (t))] rfl (by decide) hL rfl rfl (fun L7 hL7 => ?_)
      refine f_goto rfl ?_
      rw [show gv1 (Wm m) n (m 43) t = gv2 (Wm m) n (m 43) t from if_neg (by unfold gvC; rw [show bk (Wm m (4 - n)) 1 = decide (iA (iR (m 42 (p).toNat) 1) 1 = 1) by rw [← e1]; rfl, decide_eq_false (show ¬ iA (iR (m 42 (p).toNat) 1) 1 = 1 by omega), Bool.false_and]; decide)]
      exact hK2 hc _ hw hm (hL7.sel [0, 1, 2, 3] rfl)
    · have c1 : ¬ (¬ (iA (iR (m 42 (p).toNat) (1)) (1) : Int) = (1 : Int)) := c1
      have r2 := hr 1 (by decide)
      refine f_aln 1 rfl hL rfl ?_
      refine m_gfr so41 rfl hw rfl (by decide) ?_
      refine f_iln 0 rfl hL rfl ?_
      refine m_ia sa43 (m 43 1) rfl hw hm (by omega) (by omega) (by decide) rfl ?_
      refine f_if rfl (hR 43 1) (fun c2 => ?_) (fun c2 => ?_)
      · have c2 : (m 43 1 : Int) ≤ (0 : Int) := c2
        refine f_inc 0 [(3, fi (2)), (0, .ref 41), (1, fi (p)), (2, fi (t))] rfl (by decide) hL rfl rfl (fun L8 hL8 => ?_)
        refine f_goto rfl ?_
        rw [show gv1 (Wm m) n (m 43) t = gv2 (Wm m) n (m 43) t from if_neg (by unfold gvC; rw [show bk (Wm m (4 - n)) 1 = decide (iA (iR (m 42 (p).toNat) 1) 1 = 1) by rw [← e1]; rfl, decide_eq_false (show ¬ 0 < m 43 1 by omega), Bool.false_and, Bool.and_false]; decide)]
        exact hK2 hc _ hw hm (hL8.sel [0, 1, 2, 3] rfl)
      · have c2 : ¬ ((m 43 1 : Int) ≤ (0 : Int)) := c2
        refine f_aln 1 rfl hL rfl ?_
        refine m_gfr so41 rfl hw rfl (by decide) ?_
        refine f_iln 0 rfl hL rfl ?_
        refine f_s [fi (1), .ref 43, fi (1), .ref 43] rfl rfl ?_
        refine m_ia sa43 (m 43 1) rfl hw hm (by omega) (by omega) (by decide) rfl ?_
        refine f_s [fi (1), fi (m 43 1), fi (1), .ref 43] rfl rfl ?_
        refine f_isub rfl ?_
        refine m_ias sa43 rfl hw hm (by omega) (by omega) (by decide) (by omega) (fun hc7 hw7 hm7 => ?_)
        refine f_aln 1 rfl hL rfl ?_
        refine f_iln 2 rfl hL rfl ?_
        refine f_s [fi (1), fi (p), .ref 41] rfl rfl ?_
        refine f_iadd rfl ?_
        refine m_k1 (t109_d (m := m) (i := p + 1) (n := n) (k := 1) (by omega) hw15 hr (by omega)) hw7 hm7 rfl rfl rfl (m_ar so41 hw7 rfl) rfl (fun hc8 hw8 hm8 => ?_)
        have r9 := gg_r (W := Wm m) (n := n) (by omega) (hr.dcr (k := 1) (by omega))
        refine f_iln 3 rfl hL rfl ?_
        refine f_s [fi (1), fi (t), fi (gg (Wm m) n (dcr (m 43) 1))] rfl rfl ?_
        refine f_isub rfl ?_
        refine f_ic rfl (by omega) (by omega) (fun c3 => ?_) (fun c3 => ?_)
        · have c3 : (gg (Wm m) n (dcr (m 43) 1) : Int) < (t - 1 : Int) := c3
          refine f_aln 1 rfl hL rfl ?_
          refine m_gfr so41 rfl hw8 rfl (by decide) ?_
          refine f_iln 0 rfl hL rfl ?_
          refine f_s [fi (1), .ref 43, fi (1), .ref 43] rfl rfl ?_
          refine m_ia sa43 ((m 43 1) - 1) rfl hw8 hm8 (by omega) (by omega) (by decide) rfl ?_
          refine f_s [fi (1), fi ((m 43 1) - 1), fi (1), .ref 43] rfl rfl ?_
          refine f_iadd rfl ?_
          refine m_ias sa43 rfl hw8 hm8 (by omega) (by omega) (by decide) (by omega) (fun hc9 hw9 hm9 => ?_)
          refine f_inc 0 [(3, fi (2)), (0, .ref 41), (1, fi (p)), (2, fi (t))] rfl (by decide) hL rfl rfl (fun L9 hL9 => ?_)
          refine f_goto rfl ?_
          rw [show gv1 (Wm m) n (m 43) t = gv2 (Wm m) n (m 43) t from if_neg (by unfold gvC; rw [show bk (Wm m (4 - n)) 1 = decide (iA (iR (m 42 (p).toNat) 1) 1 = 1) by rw [← e1]; rfl, decide_eq_false (show ¬ t - 1 ≤ gg (Wm m) n (dcr (m 43) 1) by omega), Bool.and_false, Bool.and_false]; decide)]
          exact hK2 hc9 _ hw9 (hm9.trans (up_back m 43 1 _ _ (by omega))) (hL9.sel [0, 1, 2, 3] rfl)
        · have c3 : ¬ ((gg (Wm m) n (dcr (m 43) 1) : Int) < (t - 1 : Int)) := c3
          refine f_iln 0 rfl hL rfl ?_
          refine f_s [fi (1), fi (1)] rfl rfl ?_
          refine f_iadd rfl ?_
          refine b_eq (x := 2) (by decide) ?_
          have e9 : gv1 (Wm m) n (m 43) t = 2 := if_pos (by unfold gvC; rw [show bk (Wm m (4 - n)) 1 = decide (iA (iR (m 42 (p).toNat) 1) 1 = 1) by rw [← e1]; rfl, decide_eq_true (show iA (iR (m 42 (p).toNat) 1) 1 = 1 by omega), decide_eq_true (show 0 < m 43 1 by omega), decide_eq_true (show t - 1 ≤ gg (Wm m) n (dcr (m 43) 1) by omega)]; rfl)
          exact f_ret1 rfl ⟨by rw [e9]; rfl, hw8, (by rw [e9]; exact hm8.trans (roG_d m 1))⟩
  have hK0 : ∀ (hc : ev_H) (L : ev_L), y_in yGw hc → gi hc = m → f_L L [(3, fi (0)), (0, .ref 41), (1, fi (p)), (2, fi (t))] → x_W none (1, 0, 4, 2, 4, 3, 68, 0, 0, ev_t111) 24 L [] hc 0 0 (fun r' h' => r' = some (fi ((gv0 (Wm m) n (m 43) t : Int))) ∧ y_in yGw h' ∧ gi h' = roG m (Rd (m 43) (gv0 (Wm m) n (m 43) t))) := fun hc L hw hm hL => by
    refine f_iln 0 rfl hL rfl ?_
    refine f_s [fi (4), fi (0)] rfl rfl ?_
    refine f_ic rfl (by decide) (by decide) (fun c_9 => absurd (show (4 : Int) ≤ (0 : Int) from c_9) (by decide)) (fun _ => ?_)
    refine f_aln 1 rfl hL rfl ?_
    refine m_gfr so41 rfl hw rfl (by decide) ?_
    refine f_iln 2 rfl hL rfl ?_
    refine m_ia sa42 (m 42 (p).toNat) rfl hw hm (by omega) (by omega) (by decide) rfl ?_
    refine f_iln 0 rfl hL rfl ?_
    refine b_ishr rfl ?_
    refine f_s [fi (1), fi (iR (m 42 (p).toNat) (0))] rfl rfl ?_
    refine b_iand rfl ?_
    refine f_s [fi (1), fi (iA (iR (m 42 (p).toNat) (0)) (1))] rfl rfl ?_
    refine f_ic rfl iA_r (by decide) (fun c1 => ?_) (fun c1 => ?_)
    · have c1 : ¬ (iA (iR (m 42 (p).toNat) (0)) (1) : Int) = (1 : Int) := c1
      refine f_inc 0 [(3, fi (1)), (0, .ref 41), (1, fi (p)), (2, fi (t))] rfl (by decide) hL rfl rfl (fun L10 hL10 => ?_)
      refine f_goto rfl ?_
      rw [show gv0 (Wm m) n (m 43) t = gv1 (Wm m) n (m 43) t from if_neg (by unfold gvC; rw [show bk (Wm m (4 - n)) 0 = decide (iA (iR (m 42 (p).toNat) 0) 1 = 1) by rw [← e1]; rfl, decide_eq_false (show ¬ iA (iR (m 42 (p).toNat) 0) 1 = 1 by omega), Bool.false_and]; decide)]
      exact hK1 hc _ hw hm (hL10.sel [0, 1, 2, 3] rfl)
    · have c1 : ¬ (¬ (iA (iR (m 42 (p).toNat) (0)) (1) : Int) = (1 : Int)) := c1
      have r2 := hr 0 (by decide)
      refine f_aln 1 rfl hL rfl ?_
      refine m_gfr so41 rfl hw rfl (by decide) ?_
      refine f_iln 0 rfl hL rfl ?_
      refine m_ia sa43 (m 43 0) rfl hw hm (by omega) (by omega) (by decide) rfl ?_
      refine f_if rfl (hR 43 0) (fun c2 => ?_) (fun c2 => ?_)
      · have c2 : (m 43 0 : Int) ≤ (0 : Int) := c2
        refine f_inc 0 [(3, fi (1)), (0, .ref 41), (1, fi (p)), (2, fi (t))] rfl (by decide) hL rfl rfl (fun L11 hL11 => ?_)
        refine f_goto rfl ?_
        rw [show gv0 (Wm m) n (m 43) t = gv1 (Wm m) n (m 43) t from if_neg (by unfold gvC; rw [show bk (Wm m (4 - n)) 0 = decide (iA (iR (m 42 (p).toNat) 0) 1 = 1) by rw [← e1]; rfl, decide_eq_false (show ¬ 0 < m 43 0 by omega), Bool.false_and, Bool.and_false]; decide)]
        exact hK1 hc _ hw hm (hL11.sel [0, 1, 2, 3] rfl)
      · have c2 : ¬ ((m 43 0 : Int) ≤ (0 : Int)) := c2
        refine f_aln 1 rfl hL rfl ?_
        refine m_gfr so41 rfl hw rfl (by decide) ?_
        refine f_iln 0 rfl hL rfl ?_
        refine f_s [fi (0), .ref 43, fi (0), .ref 43] rfl rfl ?_
        refine m_ia sa43 (m 43 0) rfl hw hm (by omega) (by omega) (by decide) rfl ?_
        refine f_s [fi (1), fi (m 43 0), fi (0), .ref 43] rfl rfl ?_
        refine f_isub rfl ?_
        refine m_ias sa43 rfl hw hm (by omega) (by omega) (by decide) (by omega) (fun hc10 hw10 hm10 => ?_)
        refine f_aln 1 rfl hL rfl ?_
        refine f_iln 2 rfl hL rfl ?_
        refine f_s [fi (1), fi (p), .ref 41] rfl rfl ?_
        refine f_iadd rfl ?_
        refine m_k1 (t109_d (m := m) (i := p + 1) (n := n) (k := 0) (by omega) hw15 hr (by omega)) hw10 hm10 rfl rfl rfl (m_ar so41 hw10 rfl) rfl (fun hc11 hw11 hm11 => ?_)
        have r9 := gg_r (W := Wm m) (n := n) (by omega) (hr.dcr (k := 0) (by omega))
        refine f_iln 3 rfl hL rfl ?_
        refine f_s [fi (1), fi (t), fi (gg (Wm m) n (dcr (m 43) 0))] rfl rfl ?_
        refine f_isub rfl ?_
        refine f_ic rfl (by omega) (by omega) (fun c3 => ?_) (fun c3 => ?_)
        · have c3 : (gg (Wm m) n (dcr (m 43) 0) : Int) < (t - 1 : Int) := c3
          refine f_aln 1 rfl hL rfl ?_
          refine m_gfr so41 rfl hw11 rfl (by decide) ?_
          refine f_iln 0 rfl hL rfl ?_
          refine f_s [fi (0), .ref 43, fi (0), .ref 43] rfl rfl ?_
          refine m_ia sa43 ((m 43 0) - 1) rfl hw11 hm11 (by omega) (by omega) (by decide) rfl ?_
          refine f_s [fi (1), fi ((m 43 0) - 1), fi (0), .ref 43] rfl rfl ?_
          refine f_iadd rfl ?_
          refine m_ias sa43 rfl hw11 hm11 (by omega) (by omega) (by decide) (by omega) (fun hc12 hw12 hm12 => ?_)
          refine f_inc 0 [(3, fi (1)), (0, .ref 41), (1, fi (p)), (2, fi (t))] rfl (by decide) hL rfl rfl (fun L12 hL12 => ?_)
          refine f_goto rfl ?_
          rw [show gv0 (Wm m) n (m 43) t = gv1 (Wm m) n (m 43) t from if_neg (by unfold gvC; rw [show bk (Wm m (4 - n)) 0 = decide (iA (iR (m 42 (p).toNat) 0) 1 = 1) by rw [← e1]; rfl, decide_eq_false (show ¬ t - 1 ≤ gg (Wm m) n (dcr (m 43) 0) by omega), Bool.and_false, Bool.and_false]; decide)]
          exact hK1 hc12 _ hw12 (hm12.trans (up_back m 43 0 _ _ (by omega))) (hL12.sel [0, 1, 2, 3] rfl)
        · have c3 : ¬ ((gg (Wm m) n (dcr (m 43) 0) : Int) < (t - 1 : Int)) := c3
          refine f_iln 0 rfl hL rfl ?_
          refine f_s [fi (1), fi (0)] rfl rfl ?_
          refine f_iadd rfl ?_
          refine b_eq (x := 1) (by decide) ?_
          have e9 : gv0 (Wm m) n (m 43) t = 1 := if_pos (by unfold gvC; rw [show bk (Wm m (4 - n)) 0 = decide (iA (iR (m 42 (p).toNat) 0) 1 = 1) by rw [← e1]; rfl, decide_eq_true (show iA (iR (m 42 (p).toNat) 0) 1 = 1 by omega), decide_eq_true (show 0 < m 43 0 by omega), decide_eq_true (show t - 1 ≤ gg (Wm m) n (dcr (m 43) 0) by omega)]; rfl)
          exact f_ret1 rfl ⟨by rw [e9]; rfl, hw11, (by rw [e9]; exact hm11.trans (roG_d m 0))⟩
  refine f_iln 1 rfl hL rfl ?_
  refine f_if rfl (by omega) (fun c_9 => absurd (show (p : Int) < (0 : Int) from c_9) (by omega)) (fun _ => ?_)
  refine f_iln 1 rfl hL rfl ?_
  refine f_s [fi (5), fi (p)] rfl rfl ?_
  refine f_ic rfl (by omega) (by decide) (fun c_9 => absurd (show (5 : Int) ≤ (p : Int) from c_9) (by omega)) (fun _ => ?_)
  refine f_aln 0 rfl hL rfl ?_
  refine f_iln 1 rfl hL rfl ?_
  refine f_s [fi (1), fi (p), .ref 41] rfl rfl ?_
  refine f_iadd rfl ?_
  refine m_k1 (t109 (i := p + 1) (n := n) (by omega) hw15 hr) hw hm rfl rfl rfl (m_ar so41 hw rfl) rfl (fun hc13 hw13 hm13 => ?_)
  refine f_iln 2 rfl hL rfl ?_
  have r9 := gg_r (W := Wm m) (n := n) (by omega) hr
  refine f_ic rfl (by omega) (by omega) (fun c0 => ?_) (fun c0 => ?_)
  · have c0 : (gg (Wm m) n (m 43) : Int) < (t : Int) := c0
    refine f_s [fi (0)] rfl rfl ?_
    refine f_istn [(3, fi (0)), (0, .ref 41), (1, fi (p)), (2, fi (t))] rfl (by decide) hL rfl (fun L13 hL13 => ?_)
    rw [show gvF (Wm m) n (m 43) t = gv0 (Wm m) n (m 43) t from if_neg (by omega)]
    exact hK0 hc13 _ hw13 hm13 (hL13.sel [0, 1, 2, 3] rfl)
  · have c0 : ¬ ((gg (Wm m) n (m 43) : Int) < (t : Int)) := c0
    refine f_s [fi (0)] rfl rfl ?_
    have e9 : gvF (Wm m) n (m 43) t = 0 := if_pos (by omega)
    exact f_ret1 rfl ⟨by rw [e9]; rfl, hw13, (by rw [e9]; exact hm13.trans (roG_0 m).symm)⟩)
