/-! both trials are alike but for the hours of who wears nothing -/
def mx2 (a b : Nat → Nat → Int) : Nat → Nat → Int := fun q i => if q < 55 then a q i else b q i
def fxh (a b : Nat → Nat → Int) : Nat → Nat → Int := fun q i => if q = 15 then b 61 (23 + i) else a q i
theorem fxh_o {a b : Nat → Nat → Int} {q i : Nat} (h : q ≠ 15) : fxh a b q i = a q i := if_neg h
def SW (a b : Nat → Nat → Int) : Prop := (∀ i : Nat, i < 5 → (i : Int) < a 3 6 → a 14 i = b 61 (18 + i) ∧ (¬ a 14 i = -9 → a 15 i = b 61 (23 + i)) ∧ a 16 i = b 61 (28 + i)) ∧ (a 13 4 = b 61 33 ∧ a 13 5 = b 61 34 ∧ a 13 6 = b 61 35) ∧ (∀ i : Nat, i < 5 → (a 14 i = -9 ∨ (0 ≤ a 14 i ∧ a 14 i < a 3 5))) ∧ (∀ i : Nat, i < 5 → a 3 6 ≤ (i : Int) → a 14 i = -9 ∧ a 16 i = 0)
theorem SW.s {a b : Nat → Nat → Int} (h : SW a b) : SR18 (mx2 (fxh a b) b) := by
  obtain ⟨h1, h2, h3, h4⟩ := h
  exact SR18_of (fun i hi hp => ⟨(h1 i hi hp).1, rfl, (h1 i hi hp).2.2⟩) h2 h3 h4
theorem PRx_st {a b a' b' : Nat → Nat → Int} (h : PR (mx2 a b)) (ea : ∀ q i, q < 13 → a' q i = a q i) (eb : ∀ q i, 55 ≤ q → q ≠ 61 → b' q i = b q i) : PR (mx2 a' b') := PR_congr h (fun q i hq => by
  show (if q < 55 then a' q i else b' q i) = (if q < 55 then a q i else b q i)
  by_cases c : q < 55
  · rw [if_pos c, if_pos c, ea q i (by omega)]
  · rw [if_neg c, if_neg c, eb q i (by omega) (by omega)])
theorem PRx {a b : Nat → Nat → Int} (h : PR (mx2 a b)) : PR (mx2 (fxh a b) b) := PRx_st h (fun q i hq => fxh_o (by omega)) (fun q i _ _ => rfl)
theorem SW.j {a b : Nat → Nat → Int} (hP : PR (mx2 a b)) (h : SW a b) : jM18 b := by
  have z := SR18.j (PRx hP) h.s
  exact z
theorem qB13_x {a b : Nat → Nat → Int} {i : Nat} {x : Int} : qB13 (mx2 (fxh a b) b) i x = qB13 a i x := rfl
theorem wt18_x {a b : Nat → Nat → Int} {i : Nat} (hi : i < 5) {x : Int} : wt18 (mx2 (fxh a b) b) x i (18 + i) = wt18 b x i (18 + i) := wt18_congr rfl rfl (fun _ => rfl) (fun _ => rfl) (fun _ => rfl) (fun _ _ => rfl) rfl rfl hi
theorem kd_x {a b : Nat → Nat → Int} {x : Int} : kd (mx2 a b) x = kd a x := rfl
theorem wr_x {a b : Nat → Nat → Int} {k : Int} : wr (mx2 (fxh a b) b) 14 k = wr a 14 k := rfl
theorem dw_x {a b : Nat → Nat → Int} {k : Int} : dw18 (mx2 (fxh a b) b) k = dw18 b k := dw18_congr rfl (fun _ _ => rfl) k
theorem SW.hour {a b : Nat → Nat → Int} (hP : PR (mx2 a b)) (h : SW a b) : SW (phC13 a) (l1_18_0 b 0).1 := by
  have hPx := PRx hP
  have hs := h.s
  have hpe : a 3 6 = b 55 1 := hP.1.2
  have n5 : phC13 a 3 5 = a 3 5 := ph13_c (by decide) (by decide) (by decide) (by decide)
  have n6 : phC13 a 3 6 = a 3 6 := ph13_c (by decide) (by decide) (by decide) (by decide)
  have ewb : ∀ i : Nat, i < 5 → (if (i : Int) < b 55 1 then wt18 b (i : Int) i (18 + i) else 0) = bI (qB13 a i (i : Int)) := fun i hi => by
    have e := hs.wtE hPx hi
    rw [wt18_x hi, qB13_x] at e
    exact e
  refine ⟨fun i hi hp => ?_, ⟨?_, ?_, ?_⟩, fun i hi => ?_, fun i hi hp => ?_⟩
  · rw [n6] at hp
    have hp1 : (i : Int) < b 55 1 := by rw [← hpe]; exact hp
    obtain ⟨c1, c2, c3⟩ := ph13_w (m := a) hi
    obtain ⟨d1, d2, d3⟩ := l1_18_w b hi
    obtain ⟨s1, s2, s3⟩ := h.1 i hi hp
    have wb := ewb i hi
    rw [if_pos hp1] at wb
    rw [if_pos hp] at c1 c2
    rw [if_pos hp1] at d1 d2 d3
    rw [c1, c2, c3, d1, d2, d3, wb, ← s1, ← s3]
    by_cases c9 : a 14 i = -9
    · have e1 : ∀ l k : Int, nw (a 14 i) l k = -9 := fun l k => by unfold nw; rw [if_pos c9]; exact c9
      rw [e1 (a 15 i), e1 (b 61 (23 + i))]
      exact ⟨rfl, fun z => absurd rfl z, rfl⟩
    · rw [s2 c9]
      have ek : kd a (a 14 i) = b 56 (a 14 i).toNat := by
        have q := (h.2.2.1 i hi).resolve_left c9
        have e := hP.kdE (x := a 14 i) q
        rw [kd_x] at e
        exact e
      have kk : a 14 i = -9 ∨ kd a (a 14 i) = b 56 (a 14 i).toNat := Or.inr ek
      exact ⟨(nl_k kk).1, fun _ => (nl_k kk).2, rfl⟩
  · rw [ph13_c (by decide) (by decide) (by decide) (by decide), l1_18_c b (by omega)]; exact h.2.1.1
  · rw [ph13_c (by decide) (by decide) (by decide) (by decide), l1_18_c b (by omega)]; exact h.2.1.2.1
  · rw [ph13_h, l1_18_h, h.2.1.2.2]
  · rw [n5, (ph13_w hi).1]
    split
    · exact nw_v (h.2.2.1 i hi)
    · exact h.2.2.1 i hi
  · rw [n6] at hp
    obtain ⟨c1, c2, c3⟩ := ph13_w (m := a) hi
    have no : ¬ (i : Int) < a 3 6 := by omega
    rw [c1, c3, if_neg no, (h.2.2.2 i hi hp).2]
    refine ⟨(h.2.2.2 i hi hp).1, ?_⟩
    unfold qB13
    rw [SR18.nBo no rfl, Bool.false_and]
    decide
/-- what all of the class have waited -/
def Us (a : Nat → Nat → Int) : Int := a 16 0 + a 16 1 + a 16 2 + a 16 3 + a 16 4
theorem Us_hour (a : Nat → Nat → Int) : Int32.ofInt (Us (phC13 a)) = Int32.ofInt (Us a + bC (nb13 a)) := by
  have w : ∀ x : Int, Int32.ofInt (i32w x) = Int32.ofInt x := fun x => Int32.ofInt_toInt _
  have q0 : phC13 a 16 0 = i32w (a 16 0 + bI (qB13 a 0 0)) := (ph13_w (i := 0) (by decide)).2.2
  have q1 : phC13 a 16 1 = i32w (a 16 1 + bI (qB13 a 1 1)) := (ph13_w (i := 1) (by decide)).2.2
  have q2 : phC13 a 16 2 = i32w (a 16 2 + bI (qB13 a 2 2)) := (ph13_w (i := 2) (by decide)).2.2
  have q3 : phC13 a 16 3 = i32w (a 16 3 + bI (qB13 a 3 3)) := (ph13_w (i := 3) (by decide)).2.2
  have q4 : phC13 a 16 4 = i32w (a 16 4 + bI (qB13 a 4 4)) := (ph13_w (i := 4) (by decide)).2.2
  unfold Us
  rw [q0, q1, q2, q3, q4, nb13_b, b5_C, Int32.ofInt_add, Int32.ofInt_add, Int32.ofInt_add, Int32.ofInt_add, w, w, w, w, w, ← Int32.ofInt_add, ← Int32.ofInt_add, ← Int32.ofInt_add, ← Int32.ofInt_add]
  congr 1
  omega
/-! a day's act -/
abbrev caM (b : Nat → Nat → Int) (x k : Int) : Prop := ¬ iA (iR (b 61 34) (x)) (1) = 1 ∧ b 61 (18 + x).toNat = -9 ∧ ¬ iA (iR (b 61 33) (k)) (1) = 1 ∧ iA (iR (b 60 (x).toNat) (k)) (1) = 1 ∧ onS (dw18 b k) < rmM b k
def toM (b : Nat → Nat → Int) (x k : Int) : Nat → Nat → Int := up (up b 61 (18 + x).toNat (k)) 61 (23 + x).toNat (0)
def acM (b : Nat → Nat → Int) (v : Int) : Nat → Nat → Int := if v % 5 < b 55 1 ∧ v / 5 = 5 then toM b (v % 5) (-9) else if v % 5 < b 55 1 ∧ v / 5 < 4 ∧ v / 5 < b 55 0 ∧ caM b (v % 5) (v / 5) then toM b (v % 5) (v / 5) else b
theorem up_i {m : Nat → Nat → Int} {q p i : Nat} {v : Int} : up m q p v q i = if i = p then v else m q i := by
  unfold up
  by_cases c : i = p
  · rw [if_pos ⟨rfl, c⟩, if_pos c]
  · rw [if_neg (fun z => c z.2), if_neg c]
theorem SW_upd {a b a' b' : Nat → Nat → Int} (h : SW a b) {p : Nat} {k : Int} (hk : k = -9 ∨ (0 ≤ k ∧ k < a 3 5)) (hpP : (p : Int) < a 3 6) (e5 : a' 3 5 = a 3 5) (e6 : a' 3 6 = a 3 6) (w : ∀ i, i < 5 → a' 14 i = if i = p then k else a 14 i) (dw : ∀ i, i < 5 → b' 61 (18 + i) = if i = p then k else b 61 (18 + i)) (hh : ∀ i, i < 5 → i ≠ p → a' 15 i = a 15 i ∧ b' 61 (23 + i) = b 61 (23 + i)) (h0 : ¬ k = -9 → a' 15 p = b' 61 (23 + p)) (aa : ∀ i, i < 5 → a' 16 i = a 16 i) (da : ∀ i, i < 5 → b' 61 (28 + i) = b 61 (28 + i)) (g : a' 13 4 = a 13 4 ∧ a' 13 5 = a 13 5 ∧ a' 13 6 = a 13 6) (g' : b' 61 33 = b 61 33 ∧ b' 61 34 = b 61 34 ∧ b' 61 35 = b 61 35) : SW a' b' := by
  obtain ⟨h1, ⟨g1, g2, g3⟩, h3, h4⟩ := h
  refine ⟨fun i hi hp => ?_, ⟨g.1.trans (g1.trans g'.1.symm), g.2.1.trans (g2.trans g'.2.1.symm), g.2.2.trans (g3.trans g'.2.2.symm)⟩, fun i hi => ?_, fun i hi hp => ?_⟩
  · rw [e6] at hp
    obtain ⟨s1, s2, s3⟩ := h1 i hi hp
    rw [w i hi, dw i hi, aa i hi, da i hi]
    by_cases c : i = p
    · subst c
      rw [if_pos rfl, if_pos rfl]
      exact ⟨rfl, h0, s3⟩
    · rw [if_neg c, if_neg c, (hh i hi c).1, (hh i hi c).2]
      exact ⟨s1, s2, s3⟩
  · rw [w i hi, e5]
    split
    · exact hk
    · exact h3 i hi
  · rw [e6] at hp
    rw [w i hi, aa i hi, if_neg (by omega)]
    exact h4 i hi hp
theorem toM_eq (b : Nat → Nat → Int) {x : Int} (hx : 0 ≤ x) (k : Int) : toM b x k = up (up b 61 (18 + x.toNat) k) 61 (23 + x.toNat) 0 := by
  unfold toM
  rw [show (18 + x).toNat = 18 + x.toNat by omega, show (23 + x).toNat = 23 + x.toNat by omega]
theorem toM_w {b : Nat → Nat → Int} {p i : Nat} {k : Int} (hp : p < 5) (hi : i < 5) : up (up b 61 (18 + p) k) 61 (23 + p) 0 61 (18 + i) = if i = p then k else b 61 (18 + i) := by
  rw [up_ne (by omega), up_i]
  by_cases c : i = p
  · rw [if_pos c, if_pos (by omega)]
  · rw [if_neg c, if_neg (by omega)]
theorem SW_put {a b : Nat → Nat → Int} (h : SW a b) {x k : Int} (hx : 0 ≤ x ∧ x < a 3 6) (x5 : x < 5) (hk : k = -9 ∨ (0 ≤ k ∧ k < a 3 5)) : SW (puC a 14 15 x k) (toM b x k) := by
  have e : puC a 14 15 x k = up (up a 14 x.toNat k) 15 x.toNat 0 := if_pos hx
  rw [e, toM_eq b hx.1]
  refine SW_upd h (p := x.toNat) hk (by omega) rfl rfl (fun i hi => ?_) (fun i hi => toM_w (by omega) hi) (fun i hi hne => ⟨?_, ?_⟩) (fun _ => up_eq.trans up_eq.symm) (fun i hi => rfl) (fun i hi => ?_) ⟨rfl, rfl, rfl⟩ ⟨?_, ?_, ?_⟩
  · rw [up_nc (by decide), up_i]
  · rw [up_ne (by omega), up_nc (by decide)]
  · rw [up_ne (by omega), up_ne (by omega)]
  · rw [up_ne (by omega), up_ne (by omega)]
  · rw [up_ne (by omega), up_ne (by omega)]
  · rw [up_ne (by omega), up_ne (by omega)]
  · rw [up_ne (by omega), up_ne (by omega)]
theorem SW_hang {a b : Nat → Nat → Int} (h : SW a b) {x : Int} (hx : 0 ≤ x ∧ x < a 3 6) (x5 : x < 5) (h9 : a 14 x.toNat = -9) : SW a (toM b x (-9)) := by
  rw [toM_eq b hx.1]
  refine SW_upd h (p := x.toNat) (Or.inl rfl) (by omega) rfl rfl (fun i hi => ?_) (fun i hi => toM_w (by omega) hi) (fun i hi hne => ⟨rfl, ?_⟩) (fun z => absurd rfl z) (fun i hi => rfl) (fun i hi => ?_) ⟨rfl, rfl, rfl⟩ ⟨?_, ?_, ?_⟩
  · by_cases c : i = x.toNat
    · rw [if_pos c, c]; exact h9
    · rw [if_neg c]
  · rw [up_ne (by omega), up_ne (by omega)]
  · rw [up_ne (by omega), up_ne (by omega)]
  · rw [up_ne (by omega), up_ne (by omega)]
  · rw [up_ne (by omega), up_ne (by omega)]
  · rw [up_ne (by omega), up_ne (by omega)]
theorem ca_eq {a b : Nat → Nat → Int} (hP : PR (mx2 a b)) (h : SW a b) {x k : Int} (hx : 0 ≤ x ∧ x < a 3 6) (hk : 0 ≤ k ∧ k < a 3 5) : caC a x k ↔ caM b x k := by
  have hPx := PRx hP
  have hp5 : a 3 6 ≤ 5 := hP.2.1.2.2
  have x5 : x.toNat < 5 := by omega
  have s1 : a 14 x.toNat = b 61 (18 + x).toNat := by
    have q := (h.1 x.toNat x5 (by omega)).1
    rw [show (18 + x).toNat = 18 + x.toNat by omega]
    exact q
  have e3 : nO a 14 x = b 61 (18 + x).toNat := (if_pos hx).trans s1
  have e4 : ft a x = b 60 x.toNat := ft_eq (m := mx2 a b) hP hx
  have e5 : wr a 14 k = dw18 b k := by
    have q := h.s.wrE hPx hk.1
    rw [wr_x, dw_x] at q
    exact q
  have e6 : rm a k = rmM b k := PR.rmE (m := mx2 a b) hP hk
  show (nO a 14 x = -9 ∧ ((0 ≤ k ∧ k < a 3 5) ∧ ¬ ((0 ≤ x ∧ x < a 3 6) ∧ iA (iR (a 13 5) (x)) (1) = 1) ∧ iA (iR (ft a x) (k)) (1) = 1) ∧ ¬ ((0 ≤ k ∧ k < a 3 5) ∧ iA (iR (a 13 4) (k)) (1) = 1) ∧ bC (wr a 14 k) < rm a k) ↔ (¬ iA (iR (b 61 34) (x)) (1) = 1 ∧ b 61 (18 + x).toNat = -9 ∧ ¬ iA (iR (b 61 33) (k)) (1) = 1 ∧ iA (iR (b 60 (x).toNat) (k)) (1) = 1 ∧ onS (dw18 b k) < rmM b k)
  rw [e3, e4, h.2.1.1, h.2.1.2.1, bC_wr18, e5, e6]
  exact ⟨fun z => ⟨fun y => z.2.1.2.1 ⟨hx, y⟩, z.1, fun y => z.2.2.1 ⟨hk, y⟩, z.2.1.2.2, z.2.2.2⟩, fun z => ⟨z.2.1, ⟨hk, fun y => z.1 y.2, z.2.2.2.1⟩, fun y => z.2.2.1 y.2, z.2.2.2.2⟩⟩
theorem ca_no {a : Nat → Nat → Int} {x k : Int} (h : ¬ ((0 ≤ x ∧ x < a 3 6) ∧ (0 ≤ k ∧ k < a 3 5))) (k0 : 0 ≤ k) (k4 : k < 4) : ¬ caC a x k := fun z => by
  obtain ⟨-, ⟨z1, -, z2⟩, -, -⟩ := z
  by_cases c : 0 ≤ x ∧ x < a 3 6
  · exact h ⟨c, z1⟩
  · have e : ft a x = 0 := if_neg c
    rw [e] at z2
    have : k = 0 ∨ k = 1 ∨ k = 2 ∨ k = 3 := by omega
    rcases this with rfl | rfl | rfl | rfl
    · exact absurd z2 (by decide)
    · exact absurd z2 (by decide)
    · exact absurd z2 (by decide)
    · exact absurd z2 (by decide)
theorem SW.act {a b : Nat → Nat → Int} (hP : PR (mx2 a b)) (h : SW a b) {v : Int} (hv : 0 ≤ v ∧ v ≤ 29) : SW (acC a v) (acM b v) := by
  have hpe : a 3 6 = b 55 1 := hP.1.2
  have hne : a 3 5 = b 55 0 := hP.1.1
  have r1 : 0 ≤ v % 5 ∧ v % 5 < 5 := by omega
  have r2 : 0 ≤ v / 5 ∧ v / 5 ≤ 5 := by omega
  unfold acC acM
  generalize v % 5 = x at r1
  generalize v / 5 = k at r2
  by_cases c4 : k < 4
  · rw [if_pos c4, if_neg (show ¬ (x < b 55 1 ∧ k = 5) by omega)]
    unfold taC
    by_cases c : x < b 55 1 ∧ k < 4 ∧ k < b 55 0 ∧ caM b x k
    · have hx : 0 ≤ x ∧ x < a 3 6 := ⟨r1.1, by rw [hpe]; exact c.1⟩
      have hk : 0 ≤ k ∧ k < a 3 5 := ⟨r2.1, by rw [hne]; exact c.2.2.1⟩
      rw [if_pos c, if_pos ((ca_eq hP h hx hk).mpr c.2.2.2)]
      exact SW_put h hx r1.2 (Or.inr hk)
    · have no : ¬ caC a x k := fun z => by
        by_cases cx : (0 ≤ x ∧ x < a 3 6) ∧ (0 ≤ k ∧ k < a 3 5)
        · exact c ⟨by rw [← hpe]; exact cx.1.2, c4, by rw [← hne]; exact cx.2.2, (ca_eq hP h cx.1 cx.2).mp z⟩
        · exact ca_no cx r2.1 c4 z
      rw [if_neg c, if_neg no]
      exact h
  · rw [if_neg c4, if_neg (show ¬ (x < b 55 1 ∧ k < 4 ∧ k < b 55 0 ∧ caM b x k) from fun z => c4 z.2.1)]
    by_cases c5 : k = 5
    · rw [if_pos c5]
      unfold haC
      by_cases cp : x < b 55 1
      · have hx : 0 ≤ x ∧ x < a 3 6 := ⟨r1.1, by rw [hpe]; exact cp⟩
        have e3 : nO a 14 x = a 14 x.toNat := if_pos hx
        rw [if_pos (show x < b 55 1 ∧ k = 5 from ⟨cp, c5⟩), e3]
        by_cases c9 : a 14 x.toNat = -9
        · rw [if_pos c9]; exact SW_hang h hx r1.2 c9
        · rw [if_neg c9]; exact SW_put h hx r1.2 (Or.inl rfl)
      · have e3 : nO a 14 x = -9 := if_neg (fun z => cp (by rw [← hpe]; exact z.2))
        rw [if_neg (show ¬ (x < b 55 1 ∧ k = 5) from fun z => cp z.1), if_pos e3]
        exact h
    · rw [if_neg c5, if_neg (show ¬ (x < b 55 1 ∧ k = 5) from fun z => c5 z.2)]
      exact h
theorem acC_o (a : Nat → Nat → Int) (v : Int) {q i : Nat} (h1 : q ≠ 14) (h2 : q ≠ 15) : acC a v q i = a q i := by
  have p : ∀ x k : Int, puC a 14 15 x k q i = a q i := fun x k => by
    unfold puC
    split
    · rw [up_nc h2, up_nc h1]
    · rfl
  unfold acC
  split
  · unfold taC
    split
    · exact p _ _
    · rfl
  · split
    · unfold haC
      split
      · rfl
      · exact p _ _
    · rfl
theorem acM_o (b : Nat → Nat → Int) {v : Int} {q i : Nat} (h : q ≠ 61) : acM b v q i = b q i := by
  have p : ∀ x k : Int, toM b x k q i = b q i := fun x k => by
    unfold toM
    rw [up_nc h, up_nc h]
  unfold acM
  split
  · exact p _ _
  · split
    · exact p _ _
    · rfl
theorem acM_s (b : Nat → Nat → Int) {v : Int} {i : Nat} (h : i < 18) (hv : 0 ≤ v) : acM b v 61 i = b 61 i := by
  have p : ∀ x k : Int, 0 ≤ x → toM b x k 61 i = b 61 i := fun x k hx => by
    unfold toM
    rw [up_ne (by omega), up_ne (by omega)]
  unfold acM
  split
  · exact p _ _ (by omega)
  · split
    · exact p _ _ (by omega)
    · rfl
/-! days by a row of chances -/
def dC : List Int → (Nat → Nat → Int) → Int → (Nat → Nat → Int) × Int
  | [], a, s => (a, s)
  | v :: t, a, s => dC t (phC13 (acC a v)) (s + bC (nb13 (acC a v)))
def dM : List Int → (Nat → Nat → Int) → (Nat → Nat → Int)
  | [], b => b
  | v :: t, b => dM t (l1_18_0 (acM b v) 0).1
theorem dC_s (v : Int) (t : List Int) (a : Nat → Nat → Int) (s : Int) : dC (v :: t) a s = dC t (phC13 (acC a v)) (s + bC (nb13 (acC a v))) := rfl
theorem dM_s (v : Int) (t : List Int) (b : Nat → Nat → Int) : dM (v :: t) b = dM t (l1_18_0 (acM b v) 0).1 := rfl
theorem SW.day {a b : Nat → Nat → Int} (hP : PR (mx2 a b)) (h : SW a b) {v : Int} (hv : 0 ≤ v ∧ v ≤ 29) : PR (mx2 (acC a v) (acM b v)) ∧ SW (acC a v) (acM b v) ∧ PR (mx2 (phC13 (acC a v)) (l1_18_0 (acM b v) 0).1) ∧ SW (phC13 (acC a v)) (l1_18_0 (acM b v) 0).1 := by
  have p1 : PR (mx2 (acC a v) (acM b v)) := PRx_st hP (fun q i hq => acC_o a v (by omega) (by omega)) (fun q i _ hq => acM_o b hq)
  have s1 := h.act hP hv
  exact ⟨p1, s1, PRx_st p1 (fun q i hq => ph13_c (by omega) (by omega) (by omega) (by omega)) (fun q i _ hq => l1_18_c _ (Or.inl hq)), s1.hour p1⟩
theorem SW_days : ∀ (l : List Int), (∀ v ∈ l, 0 ≤ v ∧ v ≤ 29) → ∀ (a b : Nat → Nat → Int) (s : Int), PR (mx2 a b) → SW a b → SW (dC l a s).1 (dM l b)
  | [], _, _, _, _, _, h => h
  | v :: t, hl, a, b, s, hP, h => by
    have d := SW.day hP h (hl v (List.mem_cons_self ..))
    rw [dC_s, dM_s]
    exact SW_days t (fun v hv => hl v (List.mem_cons_of_mem _ hv)) _ _ _ d.2.2.1 d.2.2.2
theorem Us_act (a : Nat → Nat → Int) (v : Int) : Us (acC a v) = Us a := by
  unfold Us
  rw [acC_o a v (by decide) (by decide), acC_o a v (by decide) (by decide), acC_o a v (by decide) (by decide), acC_o a v (by decide) (by decide), acC_o a v (by decide) (by decide)]
theorem dC_U : ∀ (l : List Int) (a : Nat → Nat → Int) (s : Int), Int32.ofInt (Us (dC l a s).1) = Int32.ofInt (Us a + (dC l a s).2 - s)
  | [], a, s => by
    show Int32.ofInt (Us a) = Int32.ofInt (Us a + s - s)
    congr 1
    omega
  | v :: t, a, s => by
    rw [dC_s, dC_U t]
    generalize (dC t (phC13 (acC a v)) (s + bC (nb13 (acC a v)))).2 = Y
    rw [show Us (phC13 (acC a v)) + Y - (s + bC (nb13 (acC a v))) = Us (phC13 (acC a v)) + (Y - (s + bC (nb13 (acC a v)))) by omega, Int32.ofInt_add, Us_hour, ← Int32.ofInt_add, Us_act]
    congr 1
    omega
theorem dC_o : ∀ (l : List Int) (a : Nat → Nat → Int) (s : Int) {q i : Nat}, (q < 13 ∨ 16 < q) → (dC l a s).1 q i = a q i
  | [], _, _, _, _, _ => rfl
  | v :: t, a, s, q, i, h => by
    rw [dC_s, dC_o t _ _ h, ph13_c (by omega) (by omega) (by omega) (by omega), acC_o a v (by omega) (by omega)]
theorem dM_o : ∀ (l : List Int) (b : Nat → Nat → Int), (∀ v ∈ l, 0 ≤ v) → ∀ {q i : Nat}, (q ≠ 61 ∨ i < 18) → dM l b q i = b q i
  | [], _, _, _, _, _ => rfl
  | v :: t, b, hl, q, i, h => by
    rw [dM_s, dM_o t _ (fun w hw => hl w (List.mem_cons_of_mem _ hw)) h, l1_18_c _ (by omega)]
    by_cases c : q = 61
    · subst c
      exact acM_s b (by omega) (hl v (List.mem_cons_self ..))
    · exact acM_o b c
/-! the start: both lay their trials -/
theorem cp_i {m : Nat → Nat → Int} {q0 q1 n q i : Nat} : cpy m q0 0 q1 0 n q i = if q = q1 ∧ i < n then m q0 i else m q i := by
  unfold cpy
  by_cases c : q = q1 ∧ i < n
  · rw [if_pos c, if_pos ⟨c.1, by omega, by omega⟩, show 0 + (i - 0) = i by omega]
  · rw [if_neg c, if_neg (fun z => c ⟨z.1, by omega⟩)]
theorem cpC_w (m : Nat → Nat → Int) {i : Nat} (hi : i < 5) : cpC m 14 i = m 10 i ∧ cpC m 15 i = m 11 i ∧ cpC m 16 i = m 12 i := by
  refine ⟨?_, ?_, ?_⟩
  · unfold cpC
    rw [up_nc (by decide), up_nc (by decide), up_nc (by decide), cp_i, if_neg (by omega), cp_i, if_neg (by omega), cp_i, if_pos ⟨rfl, hi⟩]
  · unfold cpC
    rw [up_nc (by decide), up_nc (by decide), up_nc (by decide), cp_i, if_neg (by omega), cp_i, if_pos ⟨rfl, hi⟩, cp_i, if_neg (by omega)]
  · unfold cpC
    rw [up_nc (by decide), up_nc (by decide), up_nc (by decide), cp_i, if_pos ⟨rfl, hi⟩, cp_i, if_neg (by omega), cp_i, if_neg (by omega)]
theorem cpC_g (m : Nat → Nat → Int) : cpC m 13 4 = m 9 4 ∧ cpC m 13 5 = m 9 5 ∧ cpC m 13 6 = m 9 6 := ⟨rfl, rfl, rfl⟩
theorem cpC_o (m : Nat → Nat → Int) {q i : Nat} (h : q < 13 ∨ 16 < q) : cpC m q i = m q i := by
  unfold cpC
  rw [up_nc (by omega), up_nc (by omega), up_nc (by omega), cp_i, if_neg (by omega), cp_i, if_neg (by omega), cp_i, if_neg (by omega)]
theorem laT_w (m : Nat → Nat → Int) {i : Nat} (hi : i < 18) : laT m 61 (18 + i) = m 61 i := by
  have : i = 0 ∨ i = 1 ∨ i = 2 ∨ i = 3 ∨ i = 4 ∨ i = 5 ∨ i = 6 ∨ i = 7 ∨ i = 8 ∨ i = 9 ∨ i = 10 ∨ i = 11 ∨ i = 12 ∨ i = 13 ∨ i = 14 ∨ i = 15 ∨ i = 16 ∨ i = 17 := by omega
  rcases this with rfl | rfl | rfl | rfl | rfl | rfl | rfl | rfl | rfl | rfl | rfl | rfl | rfl | rfl | rfl | rfl | rfl | rfl
  · rfl
  · rfl
  · rfl
  · rfl
  · rfl
  · rfl
  · rfl
  · rfl
  · rfl
  · rfl
  · rfl
  · rfl
  · rfl
  · rfl
  · rfl
  · rfl
  · rfl
  · rfl
theorem laT_o (m : Nat → Nat → Int) {q i : Nat} (h : q ≠ 61 ∨ i < 18) : laT m q i = m q i := by
  unfold laT
  repeat rw [up_ne (by omega)]
theorem SW_0 {m m' : Nat → Nat → Int} (hP : PR m) (h : SR0 m) (e : ∀ q i, 55 ≤ q → m' q i = m q i) : PR (mx2 (cpC m) (laT m')) ∧ SW (cpC m) (laT m') := by
  constructor
  · refine PR_congr hP (fun q i hq => ?_)
    show (if q < 55 then cpC m q i else laT m' q i) = m q i
    by_cases c : q < 55
    · rw [if_pos c, cpC_o m (by omega)]
    · rw [if_neg c, laT_o m' (by omega), e q i (by omega)]
  · have n5 : cpC m 3 5 = m 3 5 := cpC_o m (by omega)
    have n6 : cpC m 3 6 = m 3 6 := cpC_o m (by omega)
    refine ⟨fun i hi hp => ?_, ⟨?_, ?_, ?_⟩, fun i hi => ?_, fun i hi hp => ?_⟩
    · rw [n6] at hp
      obtain ⟨s1, s2, s3⟩ := h.w hi hp
      obtain ⟨c1, c2, c3⟩ := cpC_w m hi
      have l1 := laT_w m' (i := i) (by omega)
      have l2 := laT_w m' (i := 5 + i) (by omega)
      have l3 := laT_w m' (i := 10 + i) (by omega)
      rw [show 18 + (5 + i) = 23 + i by omega] at l2
      rw [show 18 + (10 + i) = 28 + i by omega] at l3
      rw [c1, c2, c3, l1, l2, l3, e 61 _ (by decide), e 61 _ (by decide), e 61 _ (by decide)]
      rw [Nat.zero_add] at s1
      exact ⟨s1, fun _ => s2, s3⟩
    · exact (cpC_g m).1.trans (h.g.1.trans ((laT_w m' (i := 15) (by decide)).trans (e 61 15 (by decide))).symm)
    · exact (cpC_g m).2.1.trans (h.g.2.1.trans ((laT_w m' (i := 16) (by decide)).trans (e 61 16 (by decide))).symm)
    · exact (cpC_g m).2.2.trans (h.g.2.2.trans ((laT_w m' (i := 17) (by decide)).trans (e 61 17 (by decide))).symm)
    · rw [(cpC_w m hi).1, n5]; exact h.v hi
    · rw [n6] at hp
      rw [(cpC_w m hi).1, (cpC_w m hi).2.2]; exact h.o hi hp
/-- what all waited, as the reference sums it -/
theorem aw_s {m : Nat → Nat → Int} {P : Int} {c : Nat → Int} {B : Nat} (hP : m 55 1 = P) (h1 : ∀ i : Nat, i < 5 → (i : Int) < P → c i = m 61 (B + i)) (h2 : ∀ i : Nat, i < 5 → P ≤ (i : Int) → c i = 0) : aw1 m (B + 4) 4 (aw1 m (B + 3) 3 (aw1 m (B + 2) 2 (aw1 m (B + 1) 1 (aw1 m (B + 0) 0 0)))) = c 0 + c 1 + c 2 + c 3 + c 4 := by
  have k : ∀ (i : Nat) (x s : Int), i < 5 → (i : Int) = x → aw1 m (B + i) x s = s + c i := fun i x s hi hx => by
    subst hx
    unfold aw1
    rw [hP]
    by_cases z : (i : Int) < P
    · rw [if_pos z, h1 i hi z]
    · rw [if_neg z, h2 i hi (by omega)]
      omega
  rw [k 0 0 _ (by decide) rfl, k 1 1 _ (by decide) rfl, k 2 2 _ (by decide) rfl, k 3 3 _ (by decide) rfl, k 4 4 _ (by decide) rfl]
  omega
