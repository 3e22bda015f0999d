/-! ways as numbers: the greatest sum, the first way that has it -/
def hk (v : Nat → Int) (w : B4) (g : (Nat → Int) → Int) (R : Nat → Int) (k : Nat) : Int := if bk w k = true ∧ 0 < R k then v k + g (dcr R k) else g R
def hg (v : Nat → Int) : List B4 → (Nat → Int) → Int
  | [], _ => 0
  | w :: ws, R => max (hg v ws R) (max (hk v w (hg v ws) R 0) (max (hk v w (hg v ws) R 1) (max (hk v w (hg v ws) R 2) (hk v w (hg v ws) R 3))))
theorem hg_s (v : Nat → Int) (w : B4) (ws : List B4) (R : Nat → Int) : hg v (w :: ws) R = max (hg v ws R) (max (hk v w (hg v ws) R 0) (max (hk v w (hg v ws) R 1) (max (hk v w (hg v ws) R 2) (hk v w (hg v ws) R 3)))) := rfl
theorem hg_0 (v : Nat → Int) (w : B4) (ws : List B4) (R : Nat → Int) : hg v ws R ≤ hg v (w :: ws) R := by
  rw [hg_s]
  omega
theorem hg_h (v : Nat → Int) (w : B4) (ws : List B4) (R : Nat → Int) {k : Nat} (hk4 : k < 4) : hk v w (hg v ws) R k ≤ hg v (w :: ws) R := by
  rw [hg_s]
  have : k = 0 ∨ k = 1 ∨ k = 2 ∨ k = 3 := by omega
  rcases this with rfl | rfl | rfl | rfl <;> omega
theorem hg_k (v : Nat → Int) (w : B4) (ws : List B4) (R : Nat → Int) {k : Nat} (h1 : bk w k = true) (h2 : 0 < R k) : v k + hg v ws (dcr R k) ≤ hg v (w :: ws) R := by
  have := hg_h v w ws R (bk_lt h1)
  rw [show hk v w (hg v ws) R k = v k + hg v ws (dcr R k) from if_pos ⟨h1, h2⟩] at this
  exact this
theorem hk_c (v : Nat → Int) (w : B4) (g : (Nat → Int) → Int) (R : Nat → Int) (k : Nat) : hk v w g R k = g R ∨ (bk w k = true ∧ 0 < R k ∧ hk v w g R k = v k + g (dcr R k)) := by
  unfold hk
  split
  · rename_i h
    exact Or.inr ⟨h.1, h.2, rfl⟩
  · exact Or.inl rfl
theorem hg_c (v : Nat → Int) (w : B4) (ws : List B4) (R : Nat → Int) : hg v ws R = hg v (w :: ws) R ∨ ∃ k, k < 4 ∧ bk w k = true ∧ 0 < R k ∧ v k + hg v ws (dcr R k) = hg v (w :: ws) R := by
  have e := hg_s v w ws R
  have c0 := hk_c v w (hg v ws) R 0
  have c1 := hk_c v w (hg v ws) R 1
  have c2 := hk_c v w (hg v ws) R 2
  have c3 := hk_c v w (hg v ws) R 3
  have cs : hg v (w :: ws) R = hg v ws R ∨ hg v (w :: ws) R = hk v w (hg v ws) R 0 ∨ hg v (w :: ws) R = hk v w (hg v ws) R 1 ∨ hg v (w :: ws) R = hk v w (hg v ws) R 2 ∨ hg v (w :: ws) R = hk v w (hg v ws) R 3 := by omega
  rcases cs with h | h | h | h | h
  · exact Or.inl h.symm
  · rcases c0 with c | ⟨d1, d2, d3⟩
    · exact Or.inl (by rw [h, c])
    · exact Or.inr ⟨0, by decide, d1, d2, by rw [h, d3]⟩
  · rcases c1 with c | ⟨d1, d2, d3⟩
    · exact Or.inl (by rw [h, c])
    · exact Or.inr ⟨1, by decide, d1, d2, by rw [h, d3]⟩
  · rcases c2 with c | ⟨d1, d2, d3⟩
    · exact Or.inl (by rw [h, c])
    · exact Or.inr ⟨2, by decide, d1, d2, by rw [h, d3]⟩
  · rcases c3 with c | ⟨d1, d2, d3⟩
    · exact Or.inl (by rw [h, c])
    · exact Or.inr ⟨3, by decide, d1, d2, by rw [h, d3]⟩
def okS (w : B4) (g : (Nat → Int) → Bool) (R : Nat → Int) (d : Nat) : Bool := match d with
  | 0 => g R
  | k + 1 => bk w k && (decide (0 < R k) && g (dcr R k))
def okL (b : Nat) : List B4 → (Nat → Int) → Nat → Bool
  | [], _, _ => true
  | w :: ws, R, y => okS w (fun R => okL b ws R y) R (y / b ^ ws.length % b)
def vd (v : Nat → Int) (d : Nat) : Int := match d with
  | 0 => 0
  | k + 1 => v k
def mnL (v : Nat → Int) (b : Nat) : List B4 → Nat → Int
  | [], _ => 0
  | _ :: ws, y => vd v (y / b ^ ws.length % b) + mnL v b ws y
theorem dg_congr {B b y y' : Nat} (h : y % (B * b) = y' % (B * b)) : y / B % b = y' / B % b ∧ y % B = y' % B := by
  refine ⟨?_, ?_⟩
  · rw [← Nat.mod_mul_right_div_self, ← Nat.mod_mul_right_div_self, h]
  · rw [← Nat.mod_mul_right_mod y B b, ← Nat.mod_mul_right_mod y' B b, h]
theorem okL_congr (b : Nat) : ∀ (l : List B4) (R : Nat → Int) {y y' : Nat}, y % b ^ l.length = y' % b ^ l.length → okL b l R y = okL b l R y'
  | [], _, _, _, _ => rfl
  | w :: ws, R, y, y', h => by
    have h : y % (b ^ ws.length * b) = y' % (b ^ ws.length * b) := h
    obtain ⟨h1, h2⟩ := dg_congr h
    show okS w (fun R => okL b ws R y) R (y / b ^ ws.length % b) = okS w (fun R => okL b ws R y') R (y' / b ^ ws.length % b)
    rw [h1, show (fun R => okL b ws R y) = (fun R => okL b ws R y') from funext (fun R => okL_congr b ws R h2)]
theorem mnL_congr (v : Nat → Int) (b : Nat) : ∀ (l : List B4) {y y' : Nat}, y % b ^ l.length = y' % b ^ l.length → mnL v b l y = mnL v b l y'
  | [], _, _, _ => rfl
  | w :: ws, y, y', h => by
    have h : y % (b ^ ws.length * b) = y' % (b ^ ws.length * b) := h
    obtain ⟨h1, h2⟩ := dg_congr h
    show vd v (y / b ^ ws.length % b) + mnL v b ws y = vd v (y' / b ^ ws.length % b) + mnL v b ws y'
    rw [h1, mnL_congr v b ws h2]
/-- no way has more than the greatest -/
theorem okL_le (v : Nat → Int) (b : Nat) : ∀ (l : List B4) (R : Nat → Int) (y : Nat), okL b l R y = true → mnL v b l y ≤ hg v l R
  | [], _, _, _ => Int.le_refl _
  | w :: ws, R, y, h => by
    have h : okS w (fun R => okL b ws R y) R (y / b ^ ws.length % b) = true := h
    show vd v (y / b ^ ws.length % b) + mnL v b ws y ≤ hg v (w :: ws) R
    cases hd : y / b ^ ws.length % b with
    | zero =>
      rw [hd] at h
      have i1 := okL_le v b ws R y h
      have i2 := hg_0 v w ws R
      show (0 : Int) + mnL v b ws y ≤ _
      omega
    | succ k =>
      rw [hd] at h
      have h : (bk w k && (decide (0 < R k) && okL b ws (dcr R k) y)) = true := h
      simp only [Bool.and_eq_true, decide_eq_true_eq] at h
      have i1 := okL_le v b ws (dcr R k) y h.2.2
      have i2 := hg_k v w ws R h.1 h.2.1
      show v k + mnL v b ws y ≤ _
      omega
def gcB (v : Nat → Int) (w : B4) (ws : List B4) (R : Nat → Int) (k : Nat) : Bool := bk w k && (decide (0 < R k) && decide (v k + hg v ws (dcr R k) = hg v (w :: ws) R))
def gd (v : Nat → Int) (w : B4) (ws : List B4) (R : Nat → Int) : Nat := if hg v ws R = hg v (w :: ws) R then 0 else if gcB v w ws R 0 = true then 1 else if gcB v w ws R 1 = true then 2 else if gcB v w ws R 2 = true then 3 else if gcB v w ws R 3 = true then 4 else 0
def Rd (R : Nat → Int) (d : Nat) : Nat → Int := match d with
  | 0 => R
  | k + 1 => dcr R k
theorem gcB_t {v : Nat → Int} {w : B4} {ws : List B4} {R : Nat → Int} {k : Nat} (h : gcB v w ws R k = true) : bk w k = true ∧ 0 < R k ∧ v k + hg v ws (dcr R k) = hg v (w :: ws) R := by
  unfold gcB at h
  simp only [Bool.and_eq_true, decide_eq_true_eq] at h
  exact h
theorem gcB_f {v : Nat → Int} {w : B4} {ws : List B4} {R : Nat → Int} {k : Nat} (h : ¬ gcB v w ws R k = true) (h1 : bk w k = true) (h2 : 0 < R k) : v k + hg v ws (dcr R k) < hg v (w :: ws) R := by
  have h3 := hg_k v w ws R h1 h2
  have h4 : ¬ v k + hg v ws (dcr R k) = hg v (w :: ws) R := fun z => h (by unfold gcB; rw [h1, decide_eq_true h2, decide_eq_true z]; rfl)
  omega
theorem gd_c (v : Nat → Int) (w : B4) (ws : List B4) (R : Nat → Int) : (gd v w ws R = 0 ∧ hg v ws R = hg v (w :: ws) R) ∨ ∃ k, gd v w ws R = k + 1 ∧ gcB v w ws R k = true ∧ hg v ws R < hg v (w :: ws) R ∧ ∀ j, j < k → ¬ gcB v w ws R j = true := by
  by_cases c : hg v ws R = hg v (w :: ws) R
  · exact Or.inl ⟨if_pos c, c⟩
  · have lt : hg v ws R < hg v (w :: ws) R := by have := hg_0 v w ws R; omega
    have e0 : gd v w ws R = if gcB v w ws R 0 = true then 1 else if gcB v w ws R 1 = true then 2 else if gcB v w ws R 2 = true then 3 else if gcB v w ws R 3 = true then 4 else 0 := if_neg c
    rw [e0]
    by_cases c0 : gcB v w ws R 0 = true
    · exact Or.inr ⟨0, if_pos c0, c0, lt, fun j hj => absurd hj (Nat.not_lt_zero _)⟩
    · rw [if_neg c0]
      by_cases c1 : gcB v w ws R 1 = true
      · refine Or.inr ⟨1, if_pos c1, c1, lt, fun j hj => ?_⟩
        have : j = 0 := by omega
        subst this
        exact c0
      · rw [if_neg c1]
        by_cases c2 : gcB v w ws R 2 = true
        · refine Or.inr ⟨2, if_pos c2, c2, lt, fun j hj => ?_⟩
          have : j = 0 ∨ j = 1 := by omega
          rcases this with rfl | rfl
          · exact c0
          · exact c1
        · rw [if_neg c2]
          by_cases c3 : gcB v w ws R 3 = true
          · refine Or.inr ⟨3, if_pos c3, c3, lt, fun j hj => ?_⟩
            have : j = 0 ∨ j = 1 ∨ j = 2 := by omega
            rcases this with rfl | rfl | rfl
            · exact c0
            · exact c1
            · exact c2
          · exfalso
            rcases hg_c v w ws R with h | ⟨k, k4, k1, k2, k3⟩
            · exact c h
            · have : gcB v w ws R k = true := by unfold gcB; rw [k1, decide_eq_true k2, decide_eq_true k3]; rfl
              have cs : k = 0 ∨ k = 1 ∨ k = 2 ∨ k = 3 := by omega
              rcases cs with rfl | rfl | rfl | rfl
              · exact c0 this
              · exact c1 this
              · exact c2 this
              · exact c3 this
def gn (v : Nat → Int) (b : Nat) : List B4 → (Nat → Int) → Nat
  | [], _ => 0
  | w :: ws, R => b ^ ws.length * gd v w ws R + gn v b ws (Rd R (gd v w ws R))
theorem gn_spec (v : Nat → Int) (b : Nat) (hb1 : 0 < b) : ∀ (l : List B4) (R : Nat → Int), (∀ w ∈ l, ∀ k, bk w k = true → k + 1 < b) → gn v b l R < b ^ l.length ∧ okL b l R (gn v b l R) = true ∧ mnL v b l (gn v b l R) = hg v l R ∧ ∀ y, y < gn v b l R → okL b l R y = true → mnL v b l y < hg v l R
  | [], _, _ => ⟨by show 0 < b ^ 0; rw [Nat.pow_zero]; decide, rfl, rfl, fun y hy => absurd hy (Nat.not_lt_zero y)⟩
  | w :: ws, R, hb => by
    have hB : 0 < b ^ ws.length := Nat.pow_pos hb1
    obtain ⟨i1, i2, i3, i4⟩ := gn_spec v b hb1 ws (Rd R (gd v w ws R)) (fun w' hw' => hb w' (List.mem_cons_of_mem _ hw'))
    have dlt : gd v w ws R < b := by
      rcases gd_c v w ws R with ⟨h, -⟩ | ⟨k, h, h2, -⟩
      · rw [h]; exact hb1
      · rw [h]; exact hb w (List.mem_cons_self ..) k (gcB_t h2).1
    have cs := gd_c v w ws R
    have e0 : gn v b (w :: ws) R = b ^ ws.length * gd v w ws R + gn v b ws (Rd R (gd v w ws R)) := rfl
    generalize gd v w ws R = d at *
    generalize gn v b ws (Rd R d) = r at *
    rw [e0]
    have eP : b ^ (w :: ws).length = b ^ ws.length * b := Nat.pow_succ _ _
    rw [eP]
    generalize hBe : b ^ ws.length = B at *
    have dg : (B * d + r) / B = d := by rw [Nat.mul_add_div hB, Nat.div_eq_of_lt i1, Nat.add_zero]
    have rg : (B * d + r) % B = r % B := Nat.mul_add_mod B d r
    have ym : ∀ y, okL b ws (Rd R d) y = okL b ws (Rd R d) (y % B) := fun y => okL_congr b ws _ (by rw [hBe, Nat.mod_mod])
    have yn : ∀ y, mnL v b ws y = mnL v b ws (y % B) := fun y => mnL_congr v b ws (by rw [hBe, Nat.mod_mod])
    have bnd : B * d + r < B * b := by
      have : B * (d + 1) ≤ B * b := Nat.mul_le_mul_left B dlt
      rw [Nat.mul_add, Nat.mul_one] at this
      omega
    have okr : okL b ws (Rd R d) (B * d + r) = true := by rw [ym, rg, ← ym]; exact i2
    have mnr : mnL v b ws (B * d + r) = hg v ws (Rd R d) := by rw [yn, rg, ← yn]; exact i3
    have dd : (B * d + r) / b ^ ws.length % b = d := by rw [hBe, dg]; exact Nat.mod_eq_of_lt dlt
    refine ⟨bnd, ?_, ?_, fun y hy hok => ?_⟩
    · show okS w (fun R => okL b ws R (B * d + r)) R ((B * d + r) / b ^ ws.length % b) = true
      rw [dd]
      rcases cs with ⟨h, -⟩ | ⟨k, h, h2, -⟩
      · subst h; exact okr
      · subst h
        obtain ⟨q1, q2, -⟩ := gcB_t h2
        show (bk w k && (decide (0 < R k) && okL b ws (dcr R k) (B * (k + 1) + r))) = true
        rw [q1, decide_eq_true q2, show okL b ws (dcr R k) (B * (k + 1) + r) = true from okr]
        rfl
    · show vd v ((B * d + r) / b ^ ws.length % b) + mnL v b ws (B * d + r) = hg v (w :: ws) R
      rw [dd, mnr]
      rcases cs with ⟨h, h2⟩ | ⟨k, h, h2, -⟩
      · subst h; show (0 : Int) + hg v ws R = _; omega
      · subst h; exact (gcB_t h2).2.2
    · have hok : okS w (fun R => okL b ws R y) R (y / b ^ ws.length % b) = true := hok
      show vd v (y / b ^ ws.length % b) + mnL v b ws y < hg v (w :: ws) R
      have yB : y / B < b := by
        rw [Nat.div_lt_iff_lt_mul hB, Nat.mul_comm]
        omega
      rw [hBe, Nat.mod_eq_of_lt yB] at hok
      rw [hBe, Nat.mod_eq_of_lt yB]
      have ye : B * (y / B) + y % B = y := Nat.div_add_mod y B
      have yr : y % B < B := Nat.mod_lt y hB
      have yd : y / B ≤ d := by
        rcases Nat.lt_or_ge d (y / B) with h | h
        · have : B * (d + 1) ≤ B * (y / B) := Nat.mul_le_mul_left B h
          rw [Nat.mul_add, Nat.mul_one] at this
          omega
        · exact h
      rcases Nat.lt_or_eq_of_le yd with hlt | heq
      · rcases cs with ⟨h, -⟩ | ⟨k, h, h2, h3, h4⟩
        · rw [h] at hlt
          exact absurd hlt (Nat.not_lt_zero _)
        · cases he : y / B with
          | zero =>
            rw [he] at hok
            have := okL_le v b ws R y hok
            show (0 : Int) + mnL v b ws y < _
            omega
          | succ j =>
            rw [he] at hok
            have hok : (bk w j && (decide (0 < R j) && okL b ws (dcr R j) y)) = true := hok
            simp only [Bool.and_eq_true, decide_eq_true_eq] at hok
            have := okL_le v b ws (dcr R j) y hok.2.2
            have := gcB_f (h4 j (by omega)) hok.1 hok.2.1
            show v j + mnL v b ws y < _
            omega
      · have hr : y % B < r := by rw [heq] at ye; omega
        have okd : okL b ws (Rd R d) y = true := by
          rw [heq] at hok
          rcases cs with ⟨h, -⟩ | ⟨k, h, -⟩
          · subst h; exact hok
          · subst h
            have hok : (bk w k && (decide (0 < R k) && okL b ws (dcr R k) y)) = true := hok
            simp only [Bool.and_eq_true] at hok
            exact hok.2.2
        have := i4 (y % B) hr (by rw [← ym]; exact okd)
        rw [← yn] at this
        rw [heq]
        rcases cs with ⟨h, h2⟩ | ⟨k, h, h2, -⟩
        · subst h
          have this : mnL v b ws y < hg v ws R := this
          show (0 : Int) + mnL v b ws y < _
          omega
        · subst h
          have this : mnL v b ws y < hg v ws (dcr R k) := this
          have := (gcB_t h2).2.2
          show v k + mnL v b ws y < _
          omega
/-- what the loop over all ways finds -/
theorem best_is (v : Nat → Int) {b : Nat} (hb1 : 0 < b) {l : List B4} {R : Nat → Int} (hb : ∀ w ∈ l, ∀ k, bk w k = true → k + 1 < b) {mo : Int} {be : Nat} (h1 : be < b ^ l.length) (h2 : okL b l R be = true) (h3 : mnL v b l be = mo) (h4 : ∀ y, y < b ^ l.length → okL b l R y = true → mnL v b l y ≤ mo) (h5 : ∀ y, y < be → okL b l R y = true → mnL v b l y < mo) : mo = hg v l R ∧ be = gn v b l R := by
  obtain ⟨g1, g2, g3, g4⟩ := gn_spec v b hb1 l R hb
  have a1 := h4 _ g1 g2
  have a2 := okL_le v b l R be h2
  have a3 : mo = hg v l R := by omega
  refine ⟨a3, ?_⟩
  rcases Nat.lt_or_ge be (gn v b l R) with h | h
  · have := g4 be h h2; omega
  · rcases Nat.lt_or_eq_of_le h with h | h
    · have := h5 _ h g2; omega
    · exact h.symm
def fgL (b : Nat) : List B4 → Nat → Int → Int
  | [], _, a => a
  | _ :: ws, y, a => fgL b ws y (10 * a + ((y / b ^ ws.length % b : Nat) : Int))
def fwL (v : Nat → Int) : List B4 → (Nat → Int) → Int → Int
  | [], _, a => a
  | w :: ws, R, a => fwL v ws (Rd R (gd v w ws R)) (10 * a + (gd v w ws R : Int))
theorem fg_fw (v : Nat → Int) (b : Nat) (hb1 : 0 < b) : ∀ (l : List B4) (R : Nat → Int) (y : Nat) (a : Int), (∀ w ∈ l, ∀ k, bk w k = true → k + 1 < b) → y % b ^ l.length = gn v b l R → fgL b l y a = fwL v l R a
  | [], _, _, _, _, _ => rfl
  | w :: ws, R, y, a, hb, h => by
    have hB : 0 < b ^ ws.length := Nat.pow_pos hb1
    obtain ⟨i1, -, -, -⟩ := gn_spec v b hb1 ws (Rd R (gd v w ws R)) (fun w' hw' => hb w' (List.mem_cons_of_mem _ hw'))
    have h : y % (b ^ ws.length * b) = b ^ ws.length * gd v w ws R + gn v b ws (Rd R (gd v w ws R)) := h
    have e1 : y / b ^ ws.length % b = gd v w ws R := by
      rw [← Nat.mod_mul_right_div_self, h, Nat.mul_add_div hB, Nat.div_eq_of_lt i1, Nat.add_zero]
    have e2 : y % b ^ ws.length = gn v b ws (Rd R (gd v w ws R)) := by
      rw [← Nat.mod_mul_right_mod y (b ^ ws.length) b, h, Nat.mul_add_mod, Nat.mod_eq_of_lt i1]
    show fgL b ws y (10 * a + ((y / b ^ ws.length % b : Nat) : Int)) = fwL v ws (Rd R (gd v w ws R)) (10 * a + (gd v w ws R : Int))
    rw [e1]
    exact fg_fw v b hb1 ws _ y _ (fun w' hw' => hb w' (List.mem_cons_of_mem _ hw')) e2
/-- people that want nothing -/
theorem hg_e (v : Nat → Int) (ws : List B4) : hg v ((false, false, false, false) :: ws) = hg v ws := by
  funext R
  have no : ∀ k, hk v (false, false, false, false) (hg v ws) R k = hg v ws R := fun k => if_neg (fun z => by
    have := z.1
    match k, this with
    | 0, t => cases t
    | 1, t => cases t
    | 2, t => cases t
    | 3, t => cases t
    | k + 4, t => cases t)
  rw [hg_s, no, no, no, no]
  omega
theorem hg_es (v : Nat → Int) : ∀ n, hg v (List.replicate n (false, false, false, false)) = hg v []
  | 0 => rfl
  | n + 1 => (hg_e v _).trans (hg_es v n)
theorem hg_app (v : Nat → Int) {es : List B4} (he : hg v es = hg v []) : ∀ l : List B4, hg v (l ++ es) = hg v l
  | [] => he
  | w :: ws => by
    funext R
    show hg v (w :: (ws ++ es)) R = hg v (w :: ws) R
    rw [hg_s, hg_s, hg_app v he ws]
theorem gd_app (v : Nat → Int) {es : List B4} (he : hg v es = hg v []) (w : B4) (ws : List B4) (R : Nat → Int) : gd v w (ws ++ es) R = gd v w ws R := by
  have e1 := hg_app v he ws
  have e2 := hg_app v he (w :: ws)
  have e2 : hg v (w :: (ws ++ es)) = hg v (w :: ws) := e2
  unfold gd gcB
  rw [e1, e2]
def LsW (W : Nat → B4) : Nat → List B4
  | 0 => []
  | n + 1 => W (4 - n) :: LsW W n
theorem gg_hg (W : Nat → B4) : ∀ n, gg W n = hg (fun _ => 1) (LsW W n)
  | 0 => rfl
  | n + 1 => by
    funext R
    have e := gg_hg W n
    show max (gg W n R) (max (gk (W (4 - n)) (gg W n) R 0) (max (gk (W (4 - n)) (gg W n) R 1) (max (gk (W (4 - n)) (gg W n) R 2) (gk (W (4 - n)) (gg W n) R 3)))) = hg (fun _ => 1) (W (4 - n) :: LsW W n) R
    rw [hg_s, e]
    rfl
