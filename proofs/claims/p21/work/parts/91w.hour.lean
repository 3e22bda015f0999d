/-! an hour keeps the scenes alike -/
def nw (v l k : Int) : Int := if v = -9 then v else if k = 3 ∧ 3 ≤ i32w (l + 1) then -9 else v
def nl (v l k : Int) : Int := if v = -9 then l else if k = 3 ∧ 3 ≤ i32w (l + 1) then 0 else i32w (l + 1)
section STC
variable {m : Nat → Nat → Int} {w h a : Nat} {nb : Int} {p : Nat}
theorem st_nO (d2 : w ≠ a) (a3 : 3 ≠ a) {A : Int} : nO (up m a p A) w (p : Int) = if (p : Int) < m 3 6 then m w p else -9 := by
  unfold nO
  rw [up_nc a3, up_nc d2, Int.toNat_natCast]
  by_cases c : (p : Int) < m 3 6
  · rw [if_pos ⟨by omega, c⟩, if_pos c]
  · rw [if_neg (fun z => c z.2), if_neg c]
theorem st_w (d1 : w ≠ h) (d2 : w ≠ a) (d3 : h ≠ a) (a3 : 3 ≠ a) (a4 : 4 ≠ a) (h3 : 3 ≠ h) : stC m w h a nb p (p : Int) w p = if (p : Int) < m 3 6 then nw (m w p) (m h p) (kd m (m w p)) else m w p := by
  unfold stC weC
  rw [st_nO d2 a3, Int.toNat_natCast, up_nc d3, kd_congr (m := m) (up_nc a3) (fun i => up_nc a4)]
  by_cases c : (p : Int) < m 3 6
  · rw [if_pos c, if_pos c]
    unfold nw
    by_cases c1 : m w p = -9
    · rw [if_pos c1, if_pos c1, up_nc d2]
    · rw [if_neg c1, if_neg c1]
      by_cases c2 : kd m (m w p) = 3 ∧ 3 ≤ i32w (m h p + 1)
      · rw [if_pos c2, if_pos c2]
        unfold puC
        rw [if_pos ⟨by omega, by rw [up_nc h3, up_nc a3]; exact c⟩, Int.toNat_natCast, up_nc d1, up_eq]
      · rw [if_neg c2, if_neg c2, up_nc d1, up_nc d2]
  · rw [if_neg c, if_neg c, if_pos rfl, up_nc d2]
theorem st_h (d1 : w ≠ h) (d2 : w ≠ a) (d3 : h ≠ a) (a3 : 3 ≠ a) (a4 : 4 ≠ a) (h3 : 3 ≠ h) : stC m w h a nb p (p : Int) h p = if (p : Int) < m 3 6 then nl (m w p) (m h p) (kd m (m w p)) else m h p := by
  unfold stC weC
  rw [st_nO d2 a3, Int.toNat_natCast, up_nc d3, kd_congr (m := m) (up_nc a3) (fun i => up_nc a4)]
  by_cases c : (p : Int) < m 3 6
  · rw [if_pos c, if_pos c]
    unfold nl
    by_cases c1 : m w p = -9
    · rw [if_pos c1, if_pos c1, up_nc d3]
    · rw [if_neg c1, if_neg c1]
      by_cases c2 : kd m (m w p) = 3 ∧ 3 ≤ i32w (m h p + 1)
      · rw [if_pos c2, if_pos c2]
        unfold puC
        rw [if_pos ⟨by omega, by rw [up_nc h3, up_nc a3]; exact c⟩, Int.toNat_natCast, up_eq]
      · rw [if_neg c2, if_neg c2, up_eq]
  · rw [if_neg c, if_neg c, if_pos rfl, up_nc d3]
theorem st_a (d2 : w ≠ a) (d3 : h ≠ a) : stC m w h a nb p (p : Int) a p = i32w (m a p + iA (iR nb (p : Int)) 1) := by
  unfold stC
  rw [weC_c (Ne.symm d2) (Ne.symm d3), up_eq]
theorem st_o {q i : Nat} (hi : i ≠ p) : stC m w h a nb p (p : Int) q i = m q i := by
  unfold stC weC puC
  rw [Int.toNat_natCast]
  have n : ∀ (c : Nat), ¬ (q = c ∧ i = p) := fun c z => hi z.2
  split
  · rw [up_ne (n a)]
  · split
    · split
      · rw [up_ne (n h), up_ne (n w), up_ne (n h), up_ne (n a)]
      · rw [up_ne (n h), up_ne (n a)]
    · rw [up_ne (n h), up_ne (n a)]
/-- persons 0 to n - 1 have had their hour -/
def sq (w h a : Nat) (nb : Int) (m : Nat → Nat → Int) : Nat → (Nat → Nat → Int)
  | 0 => m
  | n + 1 => stC (sq w h a nb m n) w h a nb n (n : Int)
theorem sq_c {q i : Nat} (h1 : q ≠ w) (h2 : q ≠ h) (h3 : q ≠ a) : ∀ n, sq w h a nb m n q i = m q i
  | 0 => rfl
  | n + 1 => (stC_c h1 h2 h3).trans (sq_c h1 h2 h3 n)
theorem sq_ge {q i : Nat} : ∀ n, n ≤ i → sq w h a nb m n q i = m q i
  | 0, _ => rfl
  | n + 1, hi => (st_o (by omega)).trans (sq_ge n (by omega))
theorem sq_w (d1 : w ≠ h) (d2 : w ≠ a) (d3 : h ≠ a) (w3 : 3 ≠ w) (w4 : 4 ≠ w) (a3 : 3 ≠ a) (a4 : 4 ≠ a) (h3 : 3 ≠ h) (h4 : 4 ≠ h) {i : Nat} : ∀ n, i < n → sq w h a nb m n w i = (if (i : Int) < m 3 6 then nw (m w i) (m h i) (kd m (m w i)) else m w i) ∧ sq w h a nb m n h i = (if (i : Int) < m 3 6 then nl (m w i) (m h i) (kd m (m w i)) else m h i) ∧ sq w h a nb m n a i = i32w (m a i + iA (iR nb (i : Int)) 1)
  | 0, hi => absurd hi (by omega)
  | n + 1, hi => by
    by_cases e : i = n
    · subst e
      show stC (sq w h a nb m i) w h a nb i (i : Int) w i = _ ∧ stC (sq w h a nb m i) w h a nb i (i : Int) h i = _ ∧ stC (sq w h a nb m i) w h a nb i (i : Int) a i = _
      rw [st_w d1 d2 d3 a3 a4 h3, st_h d1 d2 d3 a3 a4 h3, st_a d2 d3, sq_ge i (Nat.le_refl _), sq_ge i (Nat.le_refl _), sq_ge i (Nat.le_refl _), sq_c w3 h3 a3, kd_congr (m := m) (sq_c w3 h3 a3 i) (fun j => sq_c w4 h4 a4 i)]
      exact ⟨rfl, rfl, rfl⟩
    · show stC (sq w h a nb m n) w h a nb n (n : Int) w i = _ ∧ stC (sq w h a nb m n) w h a nb n (n : Int) h i = _ ∧ stC (sq w h a nb m n) w h a nb n (n : Int) a i = _
      rw [st_o e, st_o e, st_o e]
      exact sq_w d1 d2 d3 w3 w4 a3 a4 h3 h4 n (by omega)
end STC
def nb9 (m : Nat → Nat → Int) : Int := iA (ngS m 9 (m 9 6)) (iX (sbS m 10) (-1))
theorem ph9_eq (m : Nat → Nat → Int) : phC9 m = up (sq 10 11 12 (nb9 m) m 5) 9 6 (i32w (sq 10 11 12 (nb9 m) m 5 9 6 + 1)) := rfl
def qB9 (m : Nat → Nat → Int) (p : Nat) (x : Int) : Bool := nB m 9 (m 9 6) x && !(sbP m 10 p)
theorem nb9_b (m : Nat → Nat → Int) : nb9 m = bits5 (qB9 m 0 0) (qB9 m 1 1) (qB9 m 2 2) (qB9 m 3 3) (qB9 m 4 4) := by
  unfold nb9 qB9
  rw [ngS_b, sbS_b, b5_nb]
theorem nb9_at (m : Nat → Nat → Int) {i : Nat} (hi : i < 5) : iA (iR (nb9 m) (i : Int)) 1 = bI (qB9 m i (i : Int)) := by
  rw [nb9_b]
  have : i = 0 ∨ i = 1 ∨ i = 2 ∨ i = 3 ∨ i = 4 := by omega
  rcases this with rfl | rfl | rfl | rfl | rfl
  · exact b5_0 _ _ _ _ _
  · exact b5_1 _ _ _ _ _
  · exact b5_2 _ _ _ _ _
  · exact b5_3 _ _ _ _ _
  · exact b5_4 _ _ _ _ _
/-- what the class's hour leaves -/
theorem ph9_c {m : Nat → Nat → Int} {q i : Nat} (h1 : q ≠ 10) (h2 : q ≠ 11) (h3 : q ≠ 12) (h4 : q ≠ 9 ∨ i ≠ 6) : phC9 m q i = m q i := by
  rw [ph9_eq, up_ne (fun z => h4.elim (fun y => y z.1) (fun y => y z.2)), sq_c h1 h2 h3]
theorem ph9_h {m : Nat → Nat → Int} : phC9 m 9 6 = i32w (m 9 6 + 1) := by
  rw [ph9_eq, up_eq, sq_c (by decide) (by decide) (by decide)]
theorem ph9_w {m : Nat → Nat → Int} {i : Nat} (hi : i < 5) : phC9 m 10 i = (if (i : Int) < m 3 6 then nw (m 10 i) (m 11 i) (kd m (m 10 i)) else m 10 i) ∧ phC9 m 11 i = (if (i : Int) < m 3 6 then nl (m 10 i) (m 11 i) (kd m (m 10 i)) else m 11 i) ∧ phC9 m 12 i = i32w (m 12 i + bI (qB9 m i (i : Int))) := by
  rw [ph9_eq, up_nc (by decide), up_nc (by decide), up_nc (by decide), ← nb9_at m hi]
  exact sq_w (by decide) (by decide) (by decide) (by decide) (by decide) (by decide) (by decide) (by decide) (by decide) 5 hi
/-- what the reference's hour does -/
theorem dw0_congr {m m' : Nat → Nat → Int} (h5 : m' 55 1 = m 55 1) (h : ∀ i, i < 5 → m' 61 (0 + i) = m 61 (0 + i)) (k : Int) : dw0 m' k = dw0 m k := by
  rw [dw0_bits, dw0_bits, h5, show m' 61 0 = m 61 0 from h 0 (by decide), show m' 61 1 = m 61 1 from h 1 (by decide), show m' 61 2 = m 61 2 from h 2 (by decide), show m' 61 3 = m 61 3 from h 3 (by decide), show m' 61 4 = m 61 4 from h 4 (by decide)]
theorem sbM0_congr {m m' : Nat → Nat → Int} (h0 : m' 55 0 = m 55 0) (h5 : m' 55 1 = m 55 1) (h6 : ∀ i, m' 56 i = m 56 i) (h : ∀ i, i < 5 → m' 61 (0 + i) = m 61 (0 + i)) (x : Int) : sbM0 m' x = sbM0 m x := by
  unfold sbM0 sb0
  simp only [h0, h6, dw0_congr h5 h]
theorem wt0_congr {m m' : Nat → Nat → Int} (h0 : m' 55 0 = m 55 0) (h5 : m' 55 1 = m 55 1) (h6 : ∀ i, m' 56 i = m 56 i) (h8 : ∀ i, m' 58 i = m 58 i) (h9 : ∀ i, m' 59 i = m 59 i) (h : ∀ i, i < 5 → m' 61 (0 + i) = m 61 (0 + i)) (hg : m' 61 16 = m 61 16) (hh : m' 61 17 = m 61 17) {x : Int} {i : Nat} (hi : i < 5) : wt0 m' x i (0 + i) = wt0 m x i (0 + i) := by
  unfold wt0
  rw [hg, hh, h8, h9, h i hi, sbM0_congr h0 h5 h6 h]
def gq0 (p : Nat) (m : Nat → Nat → Int) : Nat → Nat → Int := if (p : Int) < m 55 1 then up m 61 (10 + p) (i32w (m 61 (10 + p) + wt0 m (p : Int) p (0 + p))) else m
def gw0 (p : Nat) (m : Nat → Nat → Int) : Int := if (p : Int) < m 55 1 then wt0 m (p : Int) p (0 + p) else 0
def gp0 (p : Nat) (m : Nat → Nat → Int) : Nat → Nat → Int := if (p : Int) < m 55 1 then pw0 m (0 + p) (5 + p) else m
theorem l2_0_4_g (m : Nat → Nat → Int) : l2_0_4 m = l2_0_5 (gp0 4 m) := by
  unfold gp0
  by_cases c : (((4 : Nat) : Int)) < m 55 1
  · rw [if_pos c]
    exact l2_0_4_t c rfl
  · rw [if_neg c, l2_0_4_o c]
    exact (rfl).symm
theorem l1_0_4_g (m : Nat → Nat → Int) (b : Int) : l1_0_4 m b = l1_0_5 (gq0 4 m) (b + gw0 4 m) := by
  unfold gq0 gw0
  by_cases c : (((4 : Nat) : Int)) < m 55 1
  · rw [if_pos c, if_pos c]
    exact l1_0_4_t c rfl
  · rw [if_neg c, if_neg c, l1_0_4_o c, Int.add_zero]
    exact (rfl).symm
theorem l2_0_3_g (m : Nat → Nat → Int) : l2_0_3 m = l2_0_4 (gp0 3 m) := by
  unfold gp0
  by_cases c : (((3 : Nat) : Int)) < m 55 1
  · rw [if_pos c]
    exact l2_0_3_t c rfl
  · rw [if_neg c, l2_0_3_o c]
    exact (l2_0_4_o (by omega)).symm
theorem l1_0_3_g (m : Nat → Nat → Int) (b : Int) : l1_0_3 m b = l1_0_4 (gq0 3 m) (b + gw0 3 m) := by
  unfold gq0 gw0
  by_cases c : (((3 : Nat) : Int)) < m 55 1
  · rw [if_pos c, if_pos c]
    exact l1_0_3_t c rfl
  · rw [if_neg c, if_neg c, l1_0_3_o c, Int.add_zero]
    exact (l1_0_4_o (by omega)).symm
theorem l2_0_2_g (m : Nat → Nat → Int) : l2_0_2 m = l2_0_3 (gp0 2 m) := by
  unfold gp0
  by_cases c : (((2 : Nat) : Int)) < m 55 1
  · rw [if_pos c]
    exact l2_0_2_t c rfl
  · rw [if_neg c, l2_0_2_o c]
    exact (l2_0_3_o (by omega)).symm
theorem l1_0_2_g (m : Nat → Nat → Int) (b : Int) : l1_0_2 m b = l1_0_3 (gq0 2 m) (b + gw0 2 m) := by
  unfold gq0 gw0
  by_cases c : (((2 : Nat) : Int)) < m 55 1
  · rw [if_pos c, if_pos c]
    exact l1_0_2_t c rfl
  · rw [if_neg c, if_neg c, l1_0_2_o c, Int.add_zero]
    exact (l1_0_3_o (by omega)).symm
theorem l2_0_1_g (m : Nat → Nat → Int) : l2_0_1 m = l2_0_2 (gp0 1 m) := by
  unfold gp0
  by_cases c : (((1 : Nat) : Int)) < m 55 1
  · rw [if_pos c]
    exact l2_0_1_t c rfl
  · rw [if_neg c, l2_0_1_o c]
    exact (l2_0_2_o (by omega)).symm
theorem l1_0_1_g (m : Nat → Nat → Int) (b : Int) : l1_0_1 m b = l1_0_2 (gq0 1 m) (b + gw0 1 m) := by
  unfold gq0 gw0
  by_cases c : (((1 : Nat) : Int)) < m 55 1
  · rw [if_pos c, if_pos c]
    exact l1_0_1_t c rfl
  · rw [if_neg c, if_neg c, l1_0_1_o c, Int.add_zero]
    exact (l1_0_2_o (by omega)).symm
theorem l2_0_0_g (m : Nat → Nat → Int) : l2_0_0 m = l2_0_1 (gp0 0 m) := by
  unfold gp0
  by_cases c : (((0 : Nat) : Int)) < m 55 1
  · rw [if_pos c]
    exact l2_0_0_t c rfl
  · rw [if_neg c, l2_0_0_o c]
    exact (l2_0_1_o (by omega)).symm
theorem l1_0_0_g (m : Nat → Nat → Int) (b : Int) : l1_0_0 m b = l1_0_1 (gq0 0 m) (b + gw0 0 m) := by
  unfold gq0 gw0
  by_cases c : (((0 : Nat) : Int)) < m 55 1
  · rw [if_pos c, if_pos c]
    exact l1_0_0_t c rfl
  · rw [if_neg c, if_neg c, l1_0_0_o c, Int.add_zero]
    exact (l1_0_1_o (by omega)).symm
def qr0 (m : Nat → Nat → Int) : Nat → (Nat → Nat → Int)
  | 0 => m
  | n + 1 => gq0 n (qr0 m n)
def qp0 (m : Nat → Nat → Int) : Nat → (Nat → Nat → Int)
  | 0 => m
  | n + 1 => gp0 n (qp0 m n)
theorem l2_0_eq (m : Nat → Nat → Int) : l2_0_0 m = pf0 (qp0 m 5) := by rw [l2_0_0_g, l2_0_1_g, l2_0_2_g, l2_0_3_g, l2_0_4_g]; rfl
theorem l1_0_eq (m : Nat → Nat → Int) : l1_0_0 m 0 = (pf0 (qp0 (qr0 m 5) 5), 0 + gw0 0 (qr0 m 0) + gw0 1 (qr0 m 1) + gw0 2 (qr0 m 2) + gw0 3 (qr0 m 3) + gw0 4 (qr0 m 4)) := by
  rw [l1_0_0_g, l1_0_1_g, l1_0_2_g, l1_0_3_g, l1_0_4_g]
  show (l2_0_0 (qr0 m 5), _) = _
  rw [l2_0_eq]
  rfl
theorem gq0_o {m : Nat → Nat → Int} {p q i : Nat} (h : q ≠ 61 ∨ i ≠ 10 + p) : gq0 p m q i = m q i := by
  unfold gq0
  split
  · rw [up_ne (fun z => h.elim (fun y => y z.1) (fun y => y z.2))]
  · rfl
theorem qr0_o {m : Nat → Nat → Int} {q i : Nat} : ∀ n, n ≤ 5 → (q ≠ 61 ∨ i < 10 ∨ 10 + n ≤ i) → qr0 m n q i = m q i
  | 0, _, _ => rfl
  | n + 1, hn, h => (gq0_o (by omega)).trans (qr0_o n (by omega) (by omega))
theorem qr0_wt (m : Nat → Nat → Int) {n : Nat} (hn : n ≤ 5) {x : Int} {i : Nat} (hi : i < 5) : wt0 (qr0 m n) x i (0 + i) = wt0 m x i (0 + i) :=
  wt0_congr (qr0_o n hn (by omega)) (qr0_o n hn (by omega)) (fun i => qr0_o n hn (by omega)) (fun i => qr0_o n hn (by omega)) (fun i => qr0_o n hn (by omega)) (fun i hi => qr0_o n hn (by omega)) (qr0_o n hn (by omega)) (qr0_o n hn (by omega)) hi
theorem qr0_a {m : Nat → Nat → Int} {i : Nat} : ∀ n, n ≤ 5 → i < n → qr0 m n 61 (10 + i) = if (i : Int) < m 55 1 then i32w (m 61 (10 + i) + wt0 m (i : Int) i (0 + i)) else m 61 (10 + i)
  | 0, _, hi => absurd hi (by omega)
  | n + 1, hn, hi => by
    show gq0 n (qr0 m n) 61 (10 + i) = _
    by_cases e : i = n
    · subst e
      unfold gq0
      rw [qr0_o i (by omega) (Or.inl (by decide))]
      by_cases c : (i : Int) < m 55 1
      · rw [if_pos c, if_pos c, up_eq, qr0_o i (by omega) (by omega), qr0_wt m (by omega) (by omega)]
      · rw [if_neg c, if_neg c, qr0_o i (by omega) (by omega)]
    · rw [gq0_o (by omega)]
      exact qr0_a n (by omega) (by omega)
theorem gw0_eq (m : Nat → Nat → Int) {n : Nat} (hn : n < 5) : gw0 n (qr0 m n) = if (n : Int) < m 55 1 then wt0 m (n : Int) n (0 + n) else 0 := by
  unfold gw0
  rw [qr0_o n (by omega) (Or.inl (by decide)), qr0_wt m (by omega) hn]
theorem pw0_j (m : Nat → Nat → Int) {j l : Nat} (hjl : j ≠ l) : pw0 m j l 61 j = nw (m 61 j) (m 61 l) (m 56 (m 61 j).toNat) := by
  unfold pw0 nw
  by_cases c1 : m 61 j = -9
  · rw [if_pos c1, if_pos c1]
  · rw [if_neg c1, if_neg c1]
    by_cases c2 : m 56 (m 61 j).toNat = 3 ∧ 2 < i32w (m 61 l + 1)
    · rw [if_pos c2, if_pos ⟨c2.1, by omega⟩, up_ne (fun z => hjl z.2), up_eq]
    · rw [if_neg c2, if_neg (fun z => c2 ⟨z.1, by omega⟩), up_ne (fun z => hjl z.2)]
theorem pw0_l (m : Nat → Nat → Int) {j l : Nat} (hjl : j ≠ l) : pw0 m j l 61 l = nl (m 61 j) (m 61 l) (m 56 (m 61 j).toNat) := by
  unfold pw0 nl
  by_cases c1 : m 61 j = -9
  · rw [if_pos c1, if_pos c1]
  · rw [if_neg c1, if_neg c1]
    by_cases c2 : m 56 (m 61 j).toNat = 3 ∧ 2 < i32w (m 61 l + 1)
    · rw [if_pos c2, if_pos ⟨c2.1, by omega⟩, up_eq]
    · rw [if_neg c2, if_neg (fun z => c2 ⟨z.1, by omega⟩), up_eq]
theorem pw0_o (m : Nat → Nat → Int) {j l q i : Nat} (h : q ≠ 61 ∨ (i ≠ j ∧ i ≠ l)) : pw0 m j l q i = m q i := by
  unfold pw0
  split
  · rfl
  · split
    · rw [up_ne (by omega), up_ne (by omega), up_ne (by omega)]
    · rw [up_ne (by omega)]
theorem gp0_o (m : Nat → Nat → Int) {p q i : Nat} (h : q ≠ 61 ∨ (i ≠ 0 + p ∧ i ≠ 5 + p)) : gp0 p m q i = m q i := by
  unfold gp0
  split
  · exact pw0_o m h
  · rfl
theorem qp0_o {m : Nat → Nat → Int} {q i : Nat} : ∀ n, n ≤ 5 → (q ≠ 61 ∨ i < 0 ∨ (0 + n ≤ i ∧ i < 5) ∨ 5 + n ≤ i) → qp0 m n q i = m q i
  | 0, _, _ => rfl
  | n + 1, hn, h => (gp0_o _ (by omega)).trans (qp0_o n (by omega) (by omega))
theorem qp0_w {m : Nat → Nat → Int} {i : Nat} : ∀ n, n ≤ 5 → i < n → qp0 m n 61 (0 + i) = (if (i : Int) < m 55 1 then nw (m 61 (0 + i)) (m 61 (5 + i)) (m 56 (m 61 (0 + i)).toNat) else m 61 (0 + i)) ∧ qp0 m n 61 (5 + i) = (if (i : Int) < m 55 1 then nl (m 61 (0 + i)) (m 61 (5 + i)) (m 56 (m 61 (0 + i)).toNat) else m 61 (5 + i))
  | 0, _, hi => absurd hi (by omega)
  | n + 1, hn, hi => by
    show gp0 n (qp0 m n) 61 (0 + i) = _ ∧ gp0 n (qp0 m n) 61 (5 + i) = _
    by_cases e : i = n
    · subst e
      unfold gp0
      rw [qp0_o (q := 55) i (by omega) (Or.inl (by decide))]
      by_cases c : (i : Int) < m 55 1
      · rw [if_pos c, if_pos c, if_pos c, pw0_j _ (by omega), pw0_l _ (by omega), qp0_o (i := 0 + i) i (by omega) (by omega), qp0_o (i := 5 + i) i (by omega) (by omega), qp0_o (q := 56) i (by omega) (Or.inl (by decide))]
        exact ⟨rfl, rfl⟩
      · rw [if_neg c, if_neg c, if_neg c, qp0_o (i := 0 + i) i (by omega) (by omega), qp0_o (i := 5 + i) i (by omega) (by omega)]
        exact ⟨rfl, rfl⟩
    · rw [gp0_o _ (by omega), gp0_o _ (by omega)]
      exact qp0_w n (by omega) (by omega)
/-- what the reference's hour leaves -/
theorem l1_0_c (m : Nat → Nat → Int) {q i : Nat} (h : q ≠ 61 ∨ i < 0 ∨ 18 ≤ i ∨ i = 15 ∨ i = 16) : (l1_0_0 m 0).1 q i = m q i := by
  rw [l1_0_eq]
  show up (qp0 (qr0 m 5) 5) 61 17 _ q i = _
  rw [up_ne (by omega), qp0_o 5 (by decide) (by omega), qr0_o 5 (by decide) (by omega)]
theorem l1_0_h (m : Nat → Nat → Int) : (l1_0_0 m 0).1 61 17 = i32w (m 61 17 + 1) := by
  rw [l1_0_eq]
  show up (qp0 (qr0 m 5) 5) 61 17 (i32w (qp0 (qr0 m 5) 5 61 17 + 1)) 61 17 = _
  rw [up_eq, qp0_o 5 (by decide) (by omega), qr0_o 5 (by decide) (by omega)]
theorem l1_0_w (m : Nat → Nat → Int) {i : Nat} (hi : i < 5) : (l1_0_0 m 0).1 61 (0 + i) = (if (i : Int) < m 55 1 then nw (m 61 (0 + i)) (m 61 (5 + i)) (m 56 (m 61 (0 + i)).toNat) else m 61 (0 + i)) ∧ (l1_0_0 m 0).1 61 (5 + i) = (if (i : Int) < m 55 1 then nl (m 61 (0 + i)) (m 61 (5 + i)) (m 56 (m 61 (0 + i)).toNat) else m 61 (5 + i)) ∧ (l1_0_0 m 0).1 61 (10 + i) = if (i : Int) < m 55 1 then i32w (m 61 (10 + i) + wt0 m (i : Int) i (0 + i)) else m 61 (10 + i) := by
  rw [l1_0_eq]
  show up (qp0 (qr0 m 5) 5) 61 17 _ 61 (0 + i) = _ ∧ up (qp0 (qr0 m 5) 5) 61 17 _ 61 (5 + i) = _ ∧ up (qp0 (qr0 m 5) 5) 61 17 _ 61 (10 + i) = _
  rw [up_ne (by omega), up_ne (by omega), up_ne (by omega), (qp0_w 5 (by decide) hi).1, (qp0_w 5 (by decide) hi).2, qp0_o (i := 10 + i) 5 (by decide) (by omega), qr0_a 5 (by decide) hi, qr0_o (i := 0 + i) 5 (by decide) (by omega), qr0_o (i := 5 + i) 5 (by decide) (by omega), qr0_o (q := 55) 5 (by decide) (by omega), qr0_o (q := 56) 5 (by decide) (by omega)]
  exact ⟨rfl, rfl, rfl⟩
theorem SR0.wtE {m : Nat → Nat → Int} (hP : PR m) (h : SR0 m) {i : Nat} (hi : i < 5) : (if (i : Int) < m 55 1 then wt0 m (i : Int) i (0 + i) else 0) = bI (qB9 m i (i : Int)) := by
  unfold qB9
  by_cases c : (i : Int) < m 3 6
  · rw [if_pos (by rw [← hP.1.2]; exact c), h.nBE hP hi c rfl]
    unfold wt0
    rw [h.sbE hP hi c, h.g.2.2]
    by_cases c1 : ¬ iA (iR (m 61 16) (i : Int)) 1 = 1 ∧ m 58 i ≤ m 61 17 ∧ m 61 17 ≤ m 59 i
    · rw [decide_eq_true c1]
      cases sbP m 10 i
      · rw [if_pos ⟨c1, rfl⟩]; rfl
      · rw [if_neg (fun z => absurd z.2 (by decide))]; rfl
    · rw [if_neg (fun z => c1 z.1), decide_eq_false c1]; rfl
  · rw [if_neg (by rw [← hP.1.2]; exact c), SR0.nBo c rfl]; rfl
theorem nw_v {v l k n : Int} (h : v = -9 ∨ (0 ≤ v ∧ v < n)) : nw v l k = -9 ∨ (0 ≤ nw v l k ∧ nw v l k < n) := by
  unfold nw
  split
  · exact h
  · split
    · exact Or.inl rfl
    · exact h
theorem nl_k {v l k k' : Int} (h : v = -9 ∨ k = k') : nw v l k = nw v l k' ∧ nl v l k = nl v l k' := by
  rcases h with rfl | rfl
  · exact ⟨rfl, rfl⟩
  · exact ⟨rfl, rfl⟩
/-- both have passed an hour: k1 is what the class has left -/
theorem SR0.hour {m k1 : Nat → Nat → Int} (hP : PR m) (h : SR0 m) (hk : ∀ q i, (q < 17 ∨ (55 < q ∧ q < 65) ∨ (q = 55 ∧ i < 2)) → k1 q i = phC9 m q i) : SR0 (l1_0_0 k1 0).1 ∧ bC (nb9 m) = (l1_0_0 k1 0).2 := by
  have ref : ∀ q i, (55 < q ∧ q < 65) ∨ (q = 55 ∧ i < 2) → k1 q i = m q i := fun q i hq => by rw [hk q i (by omega), ph9_c (by omega) (by omega) (by omega) (by omega)]
  have cls : ∀ q i, q < 17 → (l1_0_0 k1 0).1 q i = phC9 m q i := fun q i hq => by rw [l1_0_c k1 (by omega), hk q i (by omega)]
  have n5 : (l1_0_0 k1 0).1 3 5 = m 3 5 := by rw [cls 3 5 (by decide), ph9_c (by decide) (by decide) (by decide) (by decide)]
  have n6 : (l1_0_0 k1 0).1 3 6 = m 3 6 := by rw [cls 3 6 (by decide), ph9_c (by decide) (by decide) (by decide) (by decide)]
  have ewt : ∀ (x : Int) (i : Nat), i < 5 → wt0 k1 x i (0 + i) = wt0 m x i (0 + i) := fun x i hi => wt0_congr (ref _ _ (by omega)) (ref _ _ (by omega)) (fun i => ref _ _ (by omega)) (fun i => ref _ _ (by omega)) (fun i => ref _ _ (by omega)) (fun i hi => ref _ _ (by omega)) (ref _ _ (by omega)) (ref _ _ (by omega)) hi
  have e1 : k1 55 1 = m 55 1 := ref _ _ (by omega)
  have ewb : ∀ i : Nat, i < 5 → (if (i : Int) < k1 55 1 then wt0 k1 (i : Int) i (0 + i) else 0) = bI (qB9 m i (i : Int)) := fun i hi => by rw [e1, ewt _ i hi]; exact h.wtE hP hi
  refine ⟨SR0_of (fun i hi hp => ?_) ⟨?_, ?_, ?_⟩ (fun i hi => ?_) (fun i hi hp => ?_), ?_⟩
  · rw [n6] at hp
    have hp1 : (i : Int) < m 55 1 := by rw [← hP.1.2]; exact hp
    obtain ⟨c1, c2, c3⟩ := ph9_w (m := m) hi
    obtain ⟨d1, d2, d3⟩ := l1_0_w k1 hi
    obtain ⟨s1, s2, s3⟩ := h.w hi hp
    have wb := ewb i hi
    rw [if_pos (by rw [e1]; exact hp1)] at wb
    rw [cls _ i (by decide), cls _ i (by decide), cls _ i (by decide), c1, c2, c3, d1, d2, d3, e1, if_pos hp, if_pos hp, if_pos hp1, if_pos hp1, if_pos hp1, wb, ref 61 _ (by omega), ref 61 _ (by omega), ref 61 _ (by omega), ref 56 _ (by omega), ← s1, ← s2, ← s3]
    have kk : m 10 i = -9 ∨ kd m (m 10 i) = m 56 (m 10 i).toNat := (h.v hi).elim Or.inl (fun z => Or.inr (hP.kdE z))
    exact ⟨(nl_k kk).1, (nl_k kk).2, rfl⟩
  · rw [cls _ _ (by decide), l1_0_c k1 (by omega), ref _ _ (by omega), ph9_c (by decide) (by decide) (by decide) (by decide)]; exact h.g.1
  · rw [cls _ _ (by decide), l1_0_c k1 (by omega), ref _ _ (by omega), ph9_c (by decide) (by decide) (by decide) (by decide)]; exact h.g.2.1
  · rw [cls _ _ (by decide), l1_0_h k1, ref _ _ (by omega), ph9_h, h.g.2.2]
  · rw [cls _ i (by decide), n5, (ph9_w hi).1]
    split
    · exact nw_v (h.v hi)
    · exact h.v hi
  · rw [n6] at hp
    obtain ⟨c1, c2, c3⟩ := ph9_w (m := m) hi
    have no : ¬ (i : Int) < m 3 6 := by omega
    rw [cls _ i (by decide), cls _ i (by decide), c1, c3, if_neg no, (h.o hi hp).2]
    refine ⟨(h.o hi hp).1, ?_⟩
    unfold qB9
    rw [SR0.nBo no rfl, Bool.false_and]
    decide
  · rw [l1_0_eq]
    show _ = 0 + gw0 0 (qr0 k1 0) + gw0 1 (qr0 k1 1) + gw0 2 (qr0 k1 2) + gw0 3 (qr0 k1 3) + gw0 4 (qr0 k1 4)
    rw [gw0_eq k1 (n := 0) (by decide), gw0_eq k1 (n := 1) (by decide), gw0_eq k1 (n := 2) (by decide), gw0_eq k1 (n := 3) (by decide), gw0_eq k1 (n := 4) (by decide), ewb 0 (by decide), ewb 1 (by decide), ewb 2 (by decide), ewb 3 (by decide), ewb 4 (by decide), nb9_b, b5_C]
    show _ = 0 + bI (qB9 m 0 0) + bI (qB9 m 1 1) + bI (qB9 m 2 2) + bI (qB9 m 3 3) + bI (qB9 m 4 4)
    omega
def nb13 (m : Nat → Nat → Int) : Int := iA (ngS m 13 (m 13 6)) (iX (sbS m 14) (-1))
theorem ph13_eq (m : Nat → Nat → Int) : phC13 m = up (sq 14 15 16 (nb13 m) m 5) 13 6 (i32w (sq 14 15 16 (nb13 m) m 5 13 6 + 1)) := rfl
def qB13 (m : Nat → Nat → Int) (p : Nat) (x : Int) : Bool := nB m 13 (m 13 6) x && !(sbP m 14 p)
theorem nb13_b (m : Nat → Nat → Int) : nb13 m = bits5 (qB13 m 0 0) (qB13 m 1 1) (qB13 m 2 2) (qB13 m 3 3) (qB13 m 4 4) := by
  unfold nb13 qB13
  rw [ngS_b, sbS_b, b5_nb]
theorem nb13_at (m : Nat → Nat → Int) {i : Nat} (hi : i < 5) : iA (iR (nb13 m) (i : Int)) 1 = bI (qB13 m i (i : Int)) := by
  rw [nb13_b]
  have : i = 0 ∨ i = 1 ∨ i = 2 ∨ i = 3 ∨ i = 4 := by omega
  rcases this with rfl | rfl | rfl | rfl | rfl
  · exact b5_0 _ _ _ _ _
  · exact b5_1 _ _ _ _ _
  · exact b5_2 _ _ _ _ _
  · exact b5_3 _ _ _ _ _
  · exact b5_4 _ _ _ _ _
/-- what the class's hour leaves -/
theorem ph13_c {m : Nat → Nat → Int} {q i : Nat} (h1 : q ≠ 14) (h2 : q ≠ 15) (h3 : q ≠ 16) (h4 : q ≠ 13 ∨ i ≠ 6) : phC13 m q i = m q i := by
  rw [ph13_eq, up_ne (fun z => h4.elim (fun y => y z.1) (fun y => y z.2)), sq_c h1 h2 h3]
theorem ph13_h {m : Nat → Nat → Int} : phC13 m 13 6 = i32w (m 13 6 + 1) := by
  rw [ph13_eq, up_eq, sq_c (by decide) (by decide) (by decide)]
theorem ph13_w {m : Nat → Nat → Int} {i : Nat} (hi : i < 5) : phC13 m 14 i = (if (i : Int) < m 3 6 then nw (m 14 i) (m 15 i) (kd m (m 14 i)) else m 14 i) ∧ phC13 m 15 i = (if (i : Int) < m 3 6 then nl (m 14 i) (m 15 i) (kd m (m 14 i)) else m 15 i) ∧ phC13 m 16 i = i32w (m 16 i + bI (qB13 m i (i : Int))) := by
  rw [ph13_eq, up_nc (by decide), up_nc (by decide), up_nc (by decide), ← nb13_at m hi]
  exact sq_w (by decide) (by decide) (by decide) (by decide) (by decide) (by decide) (by decide) (by decide) (by decide) 5 hi
/-- what the reference's hour does -/
theorem dw18_congr {m m' : Nat → Nat → Int} (h5 : m' 55 1 = m 55 1) (h : ∀ i, i < 5 → m' 61 (18 + i) = m 61 (18 + i)) (k : Int) : dw18 m' k = dw18 m k := by
  rw [dw18_bits, dw18_bits, h5, show m' 61 18 = m 61 18 from h 0 (by decide), show m' 61 19 = m 61 19 from h 1 (by decide), show m' 61 20 = m 61 20 from h 2 (by decide), show m' 61 21 = m 61 21 from h 3 (by decide), show m' 61 22 = m 61 22 from h 4 (by decide)]
theorem sbM18_congr {m m' : Nat → Nat → Int} (h0 : m' 55 0 = m 55 0) (h5 : m' 55 1 = m 55 1) (h6 : ∀ i, m' 56 i = m 56 i) (h : ∀ i, i < 5 → m' 61 (18 + i) = m 61 (18 + i)) (x : Int) : sbM18 m' x = sbM18 m x := by
  unfold sbM18 sb18
  simp only [h0, h6, dw18_congr h5 h]
theorem wt18_congr {m m' : Nat → Nat → Int} (h0 : m' 55 0 = m 55 0) (h5 : m' 55 1 = m 55 1) (h6 : ∀ i, m' 56 i = m 56 i) (h8 : ∀ i, m' 58 i = m 58 i) (h9 : ∀ i, m' 59 i = m 59 i) (h : ∀ i, i < 5 → m' 61 (18 + i) = m 61 (18 + i)) (hg : m' 61 34 = m 61 34) (hh : m' 61 35 = m 61 35) {x : Int} {i : Nat} (hi : i < 5) : wt18 m' x i (18 + i) = wt18 m x i (18 + i) := by
  unfold wt18
  rw [hg, hh, h8, h9, h i hi, sbM18_congr h0 h5 h6 h]
def gq18 (p : Nat) (m : Nat → Nat → Int) : Nat → Nat → Int := if (p : Int) < m 55 1 then up m 61 (28 + p) (i32w (m 61 (28 + p) + wt18 m (p : Int) p (18 + p))) else m
def gw18 (p : Nat) (m : Nat → Nat → Int) : Int := if (p : Int) < m 55 1 then wt18 m (p : Int) p (18 + p) else 0
def gp18 (p : Nat) (m : Nat → Nat → Int) : Nat → Nat → Int := if (p : Int) < m 55 1 then pw18 m (18 + p) (23 + p) else m
theorem l2_18_4_g (m : Nat → Nat → Int) : l2_18_4 m = l2_18_5 (gp18 4 m) := by
  unfold gp18
  by_cases c : (((4 : Nat) : Int)) < m 55 1
  · rw [if_pos c]
    exact l2_18_4_t c rfl
  · rw [if_neg c, l2_18_4_o c]
    exact (rfl).symm
theorem l1_18_4_g (m : Nat → Nat → Int) (b : Int) : l1_18_4 m b = l1_18_5 (gq18 4 m) (b + gw18 4 m) := by
  unfold gq18 gw18
  by_cases c : (((4 : Nat) : Int)) < m 55 1
  · rw [if_pos c, if_pos c]
    exact l1_18_4_t c rfl
  · rw [if_neg c, if_neg c, l1_18_4_o c, Int.add_zero]
    exact (rfl).symm
theorem l2_18_3_g (m : Nat → Nat → Int) : l2_18_3 m = l2_18_4 (gp18 3 m) := by
  unfold gp18
  by_cases c : (((3 : Nat) : Int)) < m 55 1
  · rw [if_pos c]
    exact l2_18_3_t c rfl
  · rw [if_neg c, l2_18_3_o c]
    exact (l2_18_4_o (by omega)).symm
theorem l1_18_3_g (m : Nat → Nat → Int) (b : Int) : l1_18_3 m b = l1_18_4 (gq18 3 m) (b + gw18 3 m) := by
  unfold gq18 gw18
  by_cases c : (((3 : Nat) : Int)) < m 55 1
  · rw [if_pos c, if_pos c]
    exact l1_18_3_t c rfl
  · rw [if_neg c, if_neg c, l1_18_3_o c, Int.add_zero]
    exact (l1_18_4_o (by omega)).symm
theorem l2_18_2_g (m : Nat → Nat → Int) : l2_18_2 m = l2_18_3 (gp18 2 m) := by
  unfold gp18
  by_cases c : (((2 : Nat) : Int)) < m 55 1
  · rw [if_pos c]
    exact l2_18_2_t c rfl
  · rw [if_neg c, l2_18_2_o c]
    exact (l2_18_3_o (by omega)).symm
theorem l1_18_2_g (m : Nat → Nat → Int) (b : Int) : l1_18_2 m b = l1_18_3 (gq18 2 m) (b + gw18 2 m) := by
  unfold gq18 gw18
  by_cases c : (((2 : Nat) : Int)) < m 55 1
  · rw [if_pos c, if_pos c]
    exact l1_18_2_t c rfl
  · rw [if_neg c, if_neg c, l1_18_2_o c, Int.add_zero]
    exact (l1_18_3_o (by omega)).symm
theorem l2_18_1_g (m : Nat → Nat → Int) : l2_18_1 m = l2_18_2 (gp18 1 m) := by
  unfold gp18
  by_cases c : (((1 : Nat) : Int)) < m 55 1
  · rw [if_pos c]
    exact l2_18_1_t c rfl
  · rw [if_neg c, l2_18_1_o c]
    exact (l2_18_2_o (by omega)).symm
theorem l1_18_1_g (m : Nat → Nat → Int) (b : Int) : l1_18_1 m b = l1_18_2 (gq18 1 m) (b + gw18 1 m) := by
  unfold gq18 gw18
  by_cases c : (((1 : Nat) : Int)) < m 55 1
  · rw [if_pos c, if_pos c]
    exact l1_18_1_t c rfl
  · rw [if_neg c, if_neg c, l1_18_1_o c, Int.add_zero]
    exact (l1_18_2_o (by omega)).symm
theorem l2_18_0_g (m : Nat → Nat → Int) : l2_18_0 m = l2_18_1 (gp18 0 m) := by
  unfold gp18
  by_cases c : (((0 : Nat) : Int)) < m 55 1
  · rw [if_pos c]
    exact l2_18_0_t c rfl
  · rw [if_neg c, l2_18_0_o c]
    exact (l2_18_1_o (by omega)).symm
theorem l1_18_0_g (m : Nat → Nat → Int) (b : Int) : l1_18_0 m b = l1_18_1 (gq18 0 m) (b + gw18 0 m) := by
  unfold gq18 gw18
  by_cases c : (((0 : Nat) : Int)) < m 55 1
  · rw [if_pos c, if_pos c]
    exact l1_18_0_t c rfl
  · rw [if_neg c, if_neg c, l1_18_0_o c, Int.add_zero]
    exact (l1_18_1_o (by omega)).symm
def qr18 (m : Nat → Nat → Int) : Nat → (Nat → Nat → Int)
  | 0 => m
  | n + 1 => gq18 n (qr18 m n)
def qp18 (m : Nat → Nat → Int) : Nat → (Nat → Nat → Int)
  | 0 => m
  | n + 1 => gp18 n (qp18 m n)
theorem l2_18_eq (m : Nat → Nat → Int) : l2_18_0 m = pf18 (qp18 m 5) := by rw [l2_18_0_g, l2_18_1_g, l2_18_2_g, l2_18_3_g, l2_18_4_g]; rfl
theorem l1_18_eq (m : Nat → Nat → Int) : l1_18_0 m 0 = (pf18 (qp18 (qr18 m 5) 5), 0 + gw18 0 (qr18 m 0) + gw18 1 (qr18 m 1) + gw18 2 (qr18 m 2) + gw18 3 (qr18 m 3) + gw18 4 (qr18 m 4)) := by
  rw [l1_18_0_g, l1_18_1_g, l1_18_2_g, l1_18_3_g, l1_18_4_g]
  show (l2_18_0 (qr18 m 5), _) = _
  rw [l2_18_eq]
  rfl
theorem gq18_o {m : Nat → Nat → Int} {p q i : Nat} (h : q ≠ 61 ∨ i ≠ 28 + p) : gq18 p m q i = m q i := by
  unfold gq18
  split
  · rw [up_ne (fun z => h.elim (fun y => y z.1) (fun y => y z.2))]
  · rfl
theorem qr18_o {m : Nat → Nat → Int} {q i : Nat} : ∀ n, n ≤ 5 → (q ≠ 61 ∨ i < 28 ∨ 28 + n ≤ i) → qr18 m n q i = m q i
  | 0, _, _ => rfl
  | n + 1, hn, h => (gq18_o (by omega)).trans (qr18_o n (by omega) (by omega))
theorem qr18_wt (m : Nat → Nat → Int) {n : Nat} (hn : n ≤ 5) {x : Int} {i : Nat} (hi : i < 5) : wt18 (qr18 m n) x i (18 + i) = wt18 m x i (18 + i) :=
  wt18_congr (qr18_o n hn (by omega)) (qr18_o n hn (by omega)) (fun i => qr18_o n hn (by omega)) (fun i => qr18_o n hn (by omega)) (fun i => qr18_o n hn (by omega)) (fun i hi => qr18_o n hn (by omega)) (qr18_o n hn (by omega)) (qr18_o n hn (by omega)) hi
theorem qr18_a {m : Nat → Nat → Int} {i : Nat} : ∀ n, n ≤ 5 → i < n → qr18 m n 61 (28 + i) = if (i : Int) < m 55 1 then i32w (m 61 (28 + i) + wt18 m (i : Int) i (18 + i)) else m 61 (28 + i)
  | 0, _, hi => absurd hi (by omega)
  | n + 1, hn, hi => by
    show gq18 n (qr18 m n) 61 (28 + i) = _
    by_cases e : i = n
    · subst e
      unfold gq18
      rw [qr18_o i (by omega) (Or.inl (by decide))]
      by_cases c : (i : Int) < m 55 1
      · rw [if_pos c, if_pos c, up_eq, qr18_o i (by omega) (by omega), qr18_wt m (by omega) (by omega)]
      · rw [if_neg c, if_neg c, qr18_o i (by omega) (by omega)]
    · rw [gq18_o (by omega)]
      exact qr18_a n (by omega) (by omega)
theorem gw18_eq (m : Nat → Nat → Int) {n : Nat} (hn : n < 5) : gw18 n (qr18 m n) = if (n : Int) < m 55 1 then wt18 m (n : Int) n (18 + n) else 0 := by
  unfold gw18
  rw [qr18_o n (by omega) (Or.inl (by decide)), qr18_wt m (by omega) hn]
theorem pw18_j (m : Nat → Nat → Int) {j l : Nat} (hjl : j ≠ l) : pw18 m j l 61 j = nw (m 61 j) (m 61 l) (m 56 (m 61 j).toNat) := by
  unfold pw18 nw
  by_cases c1 : m 61 j = -9
  · rw [if_pos c1, if_pos c1]
  · rw [if_neg c1, if_neg c1]
    by_cases c2 : m 56 (m 61 j).toNat = 3 ∧ 2 < i32w (m 61 l + 1)
    · rw [if_pos c2, if_pos ⟨c2.1, by omega⟩, up_ne (fun z => hjl z.2), up_eq]
    · rw [if_neg c2, if_neg (fun z => c2 ⟨z.1, by omega⟩), up_ne (fun z => hjl z.2)]
theorem pw18_l (m : Nat → Nat → Int) {j l : Nat} (hjl : j ≠ l) : pw18 m j l 61 l = nl (m 61 j) (m 61 l) (m 56 (m 61 j).toNat) := by
  unfold pw18 nl
  by_cases c1 : m 61 j = -9
  · rw [if_pos c1, if_pos c1]
  · rw [if_neg c1, if_neg c1]
    by_cases c2 : m 56 (m 61 j).toNat = 3 ∧ 2 < i32w (m 61 l + 1)
    · rw [if_pos c2, if_pos ⟨c2.1, by omega⟩, up_eq]
    · rw [if_neg c2, if_neg (fun z => c2 ⟨z.1, by omega⟩), up_eq]
theorem pw18_o (m : Nat → Nat → Int) {j l q i : Nat} (h : q ≠ 61 ∨ (i ≠ j ∧ i ≠ l)) : pw18 m j l q i = m q i := by
  unfold pw18
  split
  · rfl
  · split
    · rw [up_ne (by omega), up_ne (by omega), up_ne (by omega)]
    · rw [up_ne (by omega)]
theorem gp18_o (m : Nat → Nat → Int) {p q i : Nat} (h : q ≠ 61 ∨ (i ≠ 18 + p ∧ i ≠ 23 + p)) : gp18 p m q i = m q i := by
  unfold gp18
  split
  · exact pw18_o m h
  · rfl
theorem qp18_o {m : Nat → Nat → Int} {q i : Nat} : ∀ n, n ≤ 5 → (q ≠ 61 ∨ i < 18 ∨ (18 + n ≤ i ∧ i < 23) ∨ 23 + n ≤ i) → qp18 m n q i = m q i
  | 0, _, _ => rfl
  | n + 1, hn, h => (gp18_o _ (by omega)).trans (qp18_o n (by omega) (by omega))
theorem qp18_w {m : Nat → Nat → Int} {i : Nat} : ∀ n, n ≤ 5 → i < n → qp18 m n 61 (18 + i) = (if (i : Int) < m 55 1 then nw (m 61 (18 + i)) (m 61 (23 + i)) (m 56 (m 61 (18 + i)).toNat) else m 61 (18 + i)) ∧ qp18 m n 61 (23 + i) = (if (i : Int) < m 55 1 then nl (m 61 (18 + i)) (m 61 (23 + i)) (m 56 (m 61 (18 + i)).toNat) else m 61 (23 + i))
  | 0, _, hi => absurd hi (by omega)
  | n + 1, hn, hi => by
    show gp18 n (qp18 m n) 61 (18 + i) = _ ∧ gp18 n (qp18 m n) 61 (23 + i) = _
    by_cases e : i = n
    · subst e
      unfold gp18
      rw [qp18_o (q := 55) i (by omega) (Or.inl (by decide))]
      by_cases c : (i : Int) < m 55 1
      · rw [if_pos c, if_pos c, if_pos c, pw18_j _ (by omega), pw18_l _ (by omega), qp18_o (i := 18 + i) i (by omega) (by omega), qp18_o (i := 23 + i) i (by omega) (by omega), qp18_o (q := 56) i (by omega) (Or.inl (by decide))]
        exact ⟨rfl, rfl⟩
      · rw [if_neg c, if_neg c, if_neg c, qp18_o (i := 18 + i) i (by omega) (by omega), qp18_o (i := 23 + i) i (by omega) (by omega)]
        exact ⟨rfl, rfl⟩
    · rw [gp18_o _ (by omega), gp18_o _ (by omega)]
      exact qp18_w n (by omega) (by omega)
/-- what the reference's hour leaves -/
theorem l1_18_c (m : Nat → Nat → Int) {q i : Nat} (h : q ≠ 61 ∨ i < 18 ∨ 36 ≤ i ∨ i = 33 ∨ i = 34) : (l1_18_0 m 0).1 q i = m q i := by
  rw [l1_18_eq]
  show up (qp18 (qr18 m 5) 5) 61 35 _ q i = _
  rw [up_ne (by omega), qp18_o 5 (by decide) (by omega), qr18_o 5 (by decide) (by omega)]
theorem l1_18_h (m : Nat → Nat → Int) : (l1_18_0 m 0).1 61 35 = i32w (m 61 35 + 1) := by
  rw [l1_18_eq]
  show up (qp18 (qr18 m 5) 5) 61 35 (i32w (qp18 (qr18 m 5) 5 61 35 + 1)) 61 35 = _
  rw [up_eq, qp18_o 5 (by decide) (by omega), qr18_o 5 (by decide) (by omega)]
theorem l1_18_w (m : Nat → Nat → Int) {i : Nat} (hi : i < 5) : (l1_18_0 m 0).1 61 (18 + i) = (if (i : Int) < m 55 1 then nw (m 61 (18 + i)) (m 61 (23 + i)) (m 56 (m 61 (18 + i)).toNat) else m 61 (18 + i)) ∧ (l1_18_0 m 0).1 61 (23 + i) = (if (i : Int) < m 55 1 then nl (m 61 (18 + i)) (m 61 (23 + i)) (m 56 (m 61 (18 + i)).toNat) else m 61 (23 + i)) ∧ (l1_18_0 m 0).1 61 (28 + i) = if (i : Int) < m 55 1 then i32w (m 61 (28 + i) + wt18 m (i : Int) i (18 + i)) else m 61 (28 + i) := by
  rw [l1_18_eq]
  show up (qp18 (qr18 m 5) 5) 61 35 _ 61 (18 + i) = _ ∧ up (qp18 (qr18 m 5) 5) 61 35 _ 61 (23 + i) = _ ∧ up (qp18 (qr18 m 5) 5) 61 35 _ 61 (28 + i) = _
  rw [up_ne (by omega), up_ne (by omega), up_ne (by omega), (qp18_w 5 (by decide) hi).1, (qp18_w 5 (by decide) hi).2, qp18_o (i := 28 + i) 5 (by decide) (by omega), qr18_a 5 (by decide) hi, qr18_o (i := 18 + i) 5 (by decide) (by omega), qr18_o (i := 23 + i) 5 (by decide) (by omega), qr18_o (q := 55) 5 (by decide) (by omega), qr18_o (q := 56) 5 (by decide) (by omega)]
  exact ⟨rfl, rfl, rfl⟩
theorem SR18.wtE {m : Nat → Nat → Int} (hP : PR m) (h : SR18 m) {i : Nat} (hi : i < 5) : (if (i : Int) < m 55 1 then wt18 m (i : Int) i (18 + i) else 0) = bI (qB13 m i (i : Int)) := by
  unfold qB13
  by_cases c : (i : Int) < m 3 6
  · rw [if_pos (by rw [← hP.1.2]; exact c), h.nBE hP hi c rfl]
    unfold wt18
    rw [h.sbE hP hi c, h.g.2.2]
    by_cases c1 : ¬ iA (iR (m 61 34) (i : Int)) 1 = 1 ∧ m 58 i ≤ m 61 35 ∧ m 61 35 ≤ m 59 i
    · rw [decide_eq_true c1]
      cases sbP m 14 i
      · rw [if_pos ⟨c1, rfl⟩]; rfl
      · rw [if_neg (fun z => absurd z.2 (by decide))]; rfl
    · rw [if_neg (fun z => c1 z.1), decide_eq_false c1]; rfl
  · rw [if_neg (by rw [← hP.1.2]; exact c), SR18.nBo c rfl]; rfl
/-- both have passed an hour: k1 is what the class has left -/
theorem SR18.hour {m k1 : Nat → Nat → Int} (hP : PR m) (h : SR18 m) (hk : ∀ q i, (q < 17 ∨ (55 < q ∧ q < 65) ∨ (q = 55 ∧ i < 2)) → k1 q i = phC13 m q i) : SR18 (l1_18_0 k1 0).1 ∧ bC (nb13 m) = (l1_18_0 k1 0).2 := by
  have ref : ∀ q i, (55 < q ∧ q < 65) ∨ (q = 55 ∧ i < 2) → k1 q i = m q i := fun q i hq => by rw [hk q i (by omega), ph13_c (by omega) (by omega) (by omega) (by omega)]
  have cls : ∀ q i, q < 17 → (l1_18_0 k1 0).1 q i = phC13 m q i := fun q i hq => by rw [l1_18_c k1 (by omega), hk q i (by omega)]
  have n5 : (l1_18_0 k1 0).1 3 5 = m 3 5 := by rw [cls 3 5 (by decide), ph13_c (by decide) (by decide) (by decide) (by decide)]
  have n6 : (l1_18_0 k1 0).1 3 6 = m 3 6 := by rw [cls 3 6 (by decide), ph13_c (by decide) (by decide) (by decide) (by decide)]
  have ewt : ∀ (x : Int) (i : Nat), i < 5 → wt18 k1 x i (18 + i) = wt18 m x i (18 + i) := fun x i hi => wt18_congr (ref _ _ (by omega)) (ref _ _ (by omega)) (fun i => ref _ _ (by omega)) (fun i => ref _ _ (by omega)) (fun i => ref _ _ (by omega)) (fun i hi => ref _ _ (by omega)) (ref _ _ (by omega)) (ref _ _ (by omega)) hi
  have e1 : k1 55 1 = m 55 1 := ref _ _ (by omega)
  have ewb : ∀ i : Nat, i < 5 → (if (i : Int) < k1 55 1 then wt18 k1 (i : Int) i (18 + i) else 0) = bI (qB13 m i (i : Int)) := fun i hi => by rw [e1, ewt _ i hi]; exact h.wtE hP hi
  refine ⟨SR18_of (fun i hi hp => ?_) ⟨?_, ?_, ?_⟩ (fun i hi => ?_) (fun i hi hp => ?_), ?_⟩
  · rw [n6] at hp
    have hp1 : (i : Int) < m 55 1 := by rw [← hP.1.2]; exact hp
    obtain ⟨c1, c2, c3⟩ := ph13_w (m := m) hi
    obtain ⟨d1, d2, d3⟩ := l1_18_w k1 hi
    obtain ⟨s1, s2, s3⟩ := h.w hi hp
    have wb := ewb i hi
    rw [if_pos (by rw [e1]; exact hp1)] at wb
    rw [cls _ i (by decide), cls _ i (by decide), cls _ i (by decide), c1, c2, c3, d1, d2, d3, e1, if_pos hp, if_pos hp, if_pos hp1, if_pos hp1, if_pos hp1, wb, ref 61 _ (by omega), ref 61 _ (by omega), ref 61 _ (by omega), ref 56 _ (by omega), ← s1, ← s2, ← s3]
    have kk : m 14 i = -9 ∨ kd m (m 14 i) = m 56 (m 14 i).toNat := (h.v hi).elim Or.inl (fun z => Or.inr (hP.kdE z))
    exact ⟨(nl_k kk).1, (nl_k kk).2, rfl⟩
  · rw [cls _ _ (by decide), l1_18_c k1 (by omega), ref _ _ (by omega), ph13_c (by decide) (by decide) (by decide) (by decide)]; exact h.g.1
  · rw [cls _ _ (by decide), l1_18_c k1 (by omega), ref _ _ (by omega), ph13_c (by decide) (by decide) (by decide) (by decide)]; exact h.g.2.1
  · rw [cls _ _ (by decide), l1_18_h k1, ref _ _ (by omega), ph13_h, h.g.2.2]
  · rw [cls _ i (by decide), n5, (ph13_w hi).1]
    split
    · exact nw_v (h.v hi)
    · exact h.v hi
  · rw [n6] at hp
    obtain ⟨c1, c2, c3⟩ := ph13_w (m := m) hi
    have no : ¬ (i : Int) < m 3 6 := by omega
    rw [cls _ i (by decide), cls _ i (by decide), c1, c3, if_neg no, (h.o hi hp).2]
    refine ⟨(h.o hi hp).1, ?_⟩
    unfold qB13
    rw [SR18.nBo no rfl, Bool.false_and]
    decide
  · rw [l1_18_eq]
    show _ = 0 + gw18 0 (qr18 k1 0) + gw18 1 (qr18 k1 1) + gw18 2 (qr18 k1 2) + gw18 3 (qr18 k1 3) + gw18 4 (qr18 k1 4)
    rw [gw18_eq k1 (n := 0) (by decide), gw18_eq k1 (n := 1) (by decide), gw18_eq k1 (n := 2) (by decide), gw18_eq k1 (n := 3) (by decide), gw18_eq k1 (n := 4) (by decide), ewb 0 (by decide), ewb 1 (by decide), ewb 2 (by decide), ewb 3 (by decide), ewb 4 (by decide), nb13_b, b5_C]
    show _ = 0 + bI (qB13 m 0 0) + bI (qB13 m 1 1) + bI (qB13 m 2 2) + bI (qB13 m 3 3) + bI (qB13 m 4 4)
    omega
