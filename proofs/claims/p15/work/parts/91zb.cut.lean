/-! the greatest giving is the least cut -/
abbrev B4 := Bool × Bool × Bool × Bool
def uni (U V : B4) : B4 := (U.1 || V.1, U.2.1 || V.2.1, U.2.2.1 || V.2.2.1, U.2.2.2 || V.2.2.2)
def isc (U V : B4) : B4 := (U.1 && V.1, U.2.1 && V.2.1, U.2.2.1 && V.2.2.1, U.2.2.2 && V.2.2.2)
def bk (w : B4) (k : Nat) : Bool := match k with
  | 0 => w.1
  | 1 => w.2.1
  | 2 => w.2.2.1
  | 3 => w.2.2.2
  | _ => false
def one4 (k : Nat) : B4 := (Nat.beq k 0, Nat.beq k 1, Nat.beq k 2, Nat.beq k 3)
def rU (R : Nat → Int) (U : B4) : Int := (if U.1 = true then R 0 else 0) + (if U.2.1 = true then R 1 else 0) + (if U.2.2.1 = true then R 2 else 0) + (if U.2.2.2 = true then R 3 else 0)
def ouB (w U : B4) : Bool := (w.1 && !U.1) || (w.2.1 && !U.2.1) || (w.2.2.1 && !U.2.2.1) || (w.2.2.2 && !U.2.2.2)
def ou (w U : B4) : Int := bI (ouB w U)
def NN (W : Nat → B4) (U : B4) : Nat → Int
  | 0 => 0
  | n + 1 => ou (W (4 - n)) U + NN W U n
def ct (W : Nat → B4) (n : Nat) (R : Nat → Int) (U : B4) : Int := rU R U + NN W U n
def dcr (R : Nat → Int) (k : Nat) : Nat → Int := fun j => if j = k then R j - 1 else R j
def gk (w : B4) (g : (Nat → Int) → Int) (R : Nat → Int) (k : Nat) : Int := if bk w k = true ∧ 0 < R k then 1 + g (dcr R k) else g R
def gg (W : Nat → B4) : Nat → (Nat → Int) → Int
  | 0, _ => 0
  | n + 1, R => max (gg W n R) (max (gk (W (4 - n)) (gg W n) R 0) (max (gk (W (4 - n)) (gg W n) R 1) (max (gk (W (4 - n)) (gg W n) R 2) (gk (W (4 - n)) (gg W n) R 3))))
def allU : List B4 := [(false, false, false, false), (true, false, false, false), (false, true, false, false), (true, true, false, false), (false, false, true, false), (true, false, true, false), (false, true, true, false), (true, true, true, false), (false, false, false, true), (true, false, false, true), (false, true, false, true), (true, true, false, true), (false, false, true, true), (true, false, true, true), (false, true, true, true), (true, true, true, true)]
theorem allU_in : ∀ a b c d : Bool, (a, b, c, d) ∈ allU := by decide
theorem allU_in' (U : B4) : U ∈ allU := by
  obtain ⟨a, b, c, d⟩ := U
  exact allU_in a b c d
theorem ou_r (w U : B4) : 0 ≤ ou w U ∧ ou w U ≤ 1 := by
  unfold ou
  cases ouB w U <;> decide
theorem ou_sub (w U V : B4) : ou w (uni U V) + ou w (isc U V) ≤ ou w U + ou w V := by
  have key : ∀ w1 w2 w3 w4 a b c d a' b' c' d' : Bool, ou (w1, w2, w3, w4) (uni (a, b, c, d) (a', b', c', d')) + ou (w1, w2, w3, w4) (isc (a, b, c, d) (a', b', c', d')) ≤ ou (w1, w2, w3, w4) (a, b, c, d) + ou (w1, w2, w3, w4) (a', b', c', d') := by decide +kernel
  exact key _ _ _ _ _ _ _ _ _ _ _ _
theorem ou_mono (w U V : B4) : ou w (uni U V) ≤ ou w U := by
  have key : ∀ w1 w2 w3 w4 a b c d a' b' c' d' : Bool, ou (w1, w2, w3, w4) (uni (a, b, c, d) (a', b', c', d')) ≤ ou (w1, w2, w3, w4) (a, b, c, d) := by decide +kernel
  exact key _ _ _ _ _ _ _ _ _ _ _ _
theorem NN_sub (W : Nat → B4) (U V : B4) : ∀ n, NN W (uni U V) n + NN W (isc U V) n ≤ NN W U n + NN W V n
  | 0 => by show (0 : Int) + 0 ≤ 0 + 0; decide
  | n + 1 => by
    have h1 := NN_sub W U V n
    have h2 := ou_sub (W (4 - n)) U V
    show (ou (W (4 - n)) (uni U V) + NN W (uni U V) n) + (ou (W (4 - n)) (isc U V) + NN W (isc U V) n) ≤ (ou (W (4 - n)) U + NN W U n) + (ou (W (4 - n)) V + NN W V n)
    omega
theorem NN_mono (W : Nat → B4) (U V : B4) : ∀ n, NN W (uni U V) n ≤ NN W U n
  | 0 => Int.le_refl _
  | n + 1 => by
    have h1 := NN_mono W U V n
    have h2 := ou_mono (W (4 - n)) U V
    show ou (W (4 - n)) (uni U V) + NN W (uni U V) n ≤ ou (W (4 - n)) U + NN W U n
    omega
theorem r1_mod (a b : Bool) (r : Int) : (if (a || b) = true then r else 0) + (if (a && b) = true then r else 0) = (if a = true then r else 0) + (if b = true then r else 0) := by
  cases a <;> cases b <;> simp
theorem rU_mod (R : Nat → Int) (U V : B4) : rU R (uni U V) + rU R (isc U V) = rU R U + rU R V := by
  have h0 := r1_mod U.1 V.1 (R 0)
  have h1 := r1_mod U.2.1 V.2.1 (R 1)
  have h2 := r1_mod U.2.2.1 V.2.2.1 (R 2)
  have h3 := r1_mod U.2.2.2 V.2.2.2 (R 3)
  unfold rU uni isc
  dsimp only
  omega
theorem ct_sub (W : Nat → B4) (n : Nat) (R : Nat → Int) (U V : B4) : ct W n R (uni U V) + ct W n R (isc U V) ≤ ct W n R U + ct W n R V := by
  have h1 := NN_sub W U V n
  have h2 := rU_mod R U V
  unfold ct
  omega
theorem rU_dcr (R : Nat → Int) {k : Nat} (hk : k < 4) (U : B4) : rU (dcr R k) U = rU R U - bI (bk U k) := by
  obtain ⟨a, b, c, d⟩ := U
  have : k = 0 ∨ k = 1 ∨ k = 2 ∨ k = 3 := by omega
  rcases this with rfl | rfl | rfl | rfl <;> cases a <;> cases b <;> cases c <;> cases d <;> simp [rU, dcr, bk, bI] <;> omega
theorem rU_one (R : Nat → Int) {k : Nat} (hk : k < 4) (U : B4) (h0 : R k = 0) : rU R (uni U (one4 k)) = rU R U := by
  obtain ⟨a, b, c, d⟩ := U
  have : k = 0 ∨ k = 1 ∨ k = 2 ∨ k = 3 := by omega
  rcases this with rfl | rfl | rfl | rfl <;> cases a <;> cases b <;> cases c <;> cases d <;> simp [rU, uni, one4, h0]
theorem bk_one {k : Nat} (hk : k < 4) (U : B4) : bk (uni U (one4 k)) k = true := by
  obtain ⟨a, b, c, d⟩ := U
  have : k = 0 ∨ k = 1 ∨ k = 2 ∨ k = 3 := by omega
  rcases this with rfl | rfl | rfl | rfl <;> simp [uni, one4, bk]
theorem bk_uni (U V : B4) (k : Nat) (h : bk U k = true ∨ bk V k = true) : bk (uni U V) k = true := by
  match k, h with
  | 0, h => show (U.1 || V.1) = true; rw [Bool.or_eq_true]; exact h
  | 1, h => show (U.2.1 || V.2.1) = true; rw [Bool.or_eq_true]; exact h
  | 2, h => show (U.2.2.1 || V.2.2.1) = true; rw [Bool.or_eq_true]; exact h
  | 3, h => show (U.2.2.2 || V.2.2.2) = true; rw [Bool.or_eq_true]; exact h
  | k + 4, h => exact h.elim (fun z => by cases z) (fun z => by cases z)
theorem ouB_k {w U : B4} (h : ouB w U = true) : ∃ k, k < 4 ∧ bk w k = true ∧ bk U k = false := by
  unfold ouB at h
  simp only [Bool.or_eq_true, Bool.and_eq_true, Bool.not_eq_true'] at h
  rcases h with ((h | h) | h) | h
  · exact ⟨0, by decide, h⟩
  · exact ⟨1, by decide, h⟩
  · exact ⟨2, by decide, h⟩
  · exact ⟨3, by decide, h⟩
theorem ouB_of {w U : B4} {k : Nat} (h1 : bk w k = true) (h2 : bk U k = false) : ou w U = 1 := by
  have : ouB w U = true := by
    unfold ouB
    simp only [Bool.or_eq_true, Bool.and_eq_true, Bool.not_eq_true']
    match k, h1, h2 with
    | 0, h1, h2 => exact Or.inl (Or.inl (Or.inl ⟨h1, h2⟩))
    | 1, h1, h2 => exact Or.inl (Or.inl (Or.inr ⟨h1, h2⟩))
    | 2, h1, h2 => exact Or.inl (Or.inr ⟨h1, h2⟩)
    | 3, h1, h2 => exact Or.inr ⟨h1, h2⟩
    | k + 4, h1, h2 => cases h1
  unfold ou
  rw [this]
  rfl
def Rp (R : Nat → Int) : Prop := ∀ k, k < 4 → 0 ≤ R k
theorem Rp.dcr {R : Nat → Int} (h : Rp R) {k : Nat} (hk : 0 < R k) : Rp (dcr R k) := fun j hj => by
  show 0 ≤ (if j = k then R j - 1 else R j)
  split
  · rename_i e; subst e; omega
  · exact h j hj
theorem bk_lt {w : B4} {k : Nat} (h : bk w k = true) : k < 4 := by
  match k, h with
  | 0, _ => decide
  | 1, _ => decide
  | 2, _ => decide
  | 3, _ => decide
  | k + 4, h => cases h
/-- no giving is greater than a cut -/
theorem gg_le (W : Nat → B4) : ∀ (n : Nat) (R : Nat → Int) (U : B4), Rp R → gg W n R ≤ ct W n R U
  | 0, R, U, hR => by
    have h0 := hR 0 (by decide)
    have h1 := hR 1 (by decide)
    have h2 := hR 2 (by decide)
    have h3 := hR 3 (by decide)
    show (0 : Int) ≤ rU R U + 0
    unfold rU
    split <;> split <;> split <;> split <;> omega
  | n + 1, R, U, hR => by
    have b0 : gg W n R ≤ ct W (n + 1) R U := by
      have := gg_le W n R U hR
      have := (ou_r (W (4 - n)) U).1
      show _ ≤ rU R U + (ou (W (4 - n)) U + NN W U n)
      have e : ct W n R U = rU R U + NN W U n := rfl
      omega
    have bk_ : ∀ k, gk (W (4 - n)) (gg W n) R k ≤ ct W (n + 1) R U := fun k => by
      unfold gk
      split
      · rename_i h
        have k4 := bk_lt h.1
        have i1 := gg_le W n (dcr R k) U (hR.dcr h.2)
        have e1 : ct W n (dcr R k) U = rU R U - bI (bk U k) + NN W U n := by unfold ct; rw [rU_dcr R k4]
        show 1 + gg W n (dcr R k) ≤ rU R U + (ou (W (4 - n)) U + NN W U n)
        have o1 := ou_r (W (4 - n)) U
        cases hb : bk U k with
        | true =>
          rw [hb] at e1
          have e1 : ct W n (dcr R k) U = rU R U - 1 + NN W U n := e1
          omega
        | false =>
          rw [hb] at e1
          have e1 : ct W n (dcr R k) U = rU R U - 0 + NN W U n := e1
          have := ouB_of h.1 hb
          omega
      · exact b0
    show max (gg W n R) (max (gk (W (4 - n)) (gg W n) R 0) (max (gk (W (4 - n)) (gg W n) R 1) (max (gk (W (4 - n)) (gg W n) R 2) (gk (W (4 - n)) (gg W n) R 3)))) ≤ _
    have := bk_ 0
    have := bk_ 1
    have := bk_ 2
    have := bk_ 3
    omega
theorem min_fold {f : B4 → Int} {c : Int} (hs : ∀ U V, f (uni U V) + f (isc U V) ≤ f U + f V) (hc : ∀ U, c ≤ f U) {U0 : B4} (h0 : f U0 = c) : ∀ l : List B4, (∀ V ∈ l, f V = c) → f (l.foldr uni U0) = c ∧ ∀ V ∈ l, ∀ k, bk V k = true → bk (l.foldr uni U0) k = true
  | [], _ => ⟨h0, fun V hV => by cases hV⟩
  | V :: l, h => by
    obtain ⟨i1, i2⟩ := min_fold hs hc h0 l (fun X hX => h X (List.mem_cons_of_mem _ hX))
    have hV := h V (List.mem_cons_self ..)
    have h1 := hs V (l.foldr uni U0)
    have h2 := hc (uni V (l.foldr uni U0))
    have h3 := hc (isc V (l.foldr uni U0))
    refine ⟨by show f (uni V (l.foldr uni U0)) = c; omega, fun X hX k hk => ?_⟩
    show bk (uni V (l.foldr uni U0)) k = true
    rcases List.mem_cons.mp hX with rfl | hX
    · exact bk_uni _ _ k (Or.inl hk)
    · exact bk_uni _ _ k (Or.inr (i2 X hX k hk))
/-- some cut is no greater than the greatest giving -/
theorem gg_ge (W : Nat → B4) : ∀ (n : Nat) (R : Nat → Int), Rp R → ∃ U, ct W n R U ≤ gg W n R
  | 0, R, hR => ⟨(false, false, false, false), by show rU R (false, false, false, false) + 0 ≤ 0; simp [rU]⟩
  | n + 1, R, hR => by
    obtain ⟨U0, hU0⟩ := gg_ge W n R hR
    have hc := fun U => gg_le W n R U hR
    have h0 : ct W n R U0 = gg W n R := by have := hc U0; omega
    obtain ⟨m1, m2⟩ := min_fold (ct_sub W n R) hc h0 (allU.filter (fun U => decide (ct W n R U = gg W n R))) (fun V hV => of_decide_eq_true (List.mem_filter.mp hV).2)
    generalize (allU.filter (fun U => decide (ct W n R U = gg W n R))).foldr uni U0 = X at m1 m2
    have m2 : ∀ V, ct W n R V = gg W n R → ∀ k, bk V k = true → bk X k = true := fun V hV => m2 V (List.mem_filter.mpr ⟨allU_in' V, decide_eq_true hV⟩)
    have cX : ct W (n + 1) R X = ct W n R X + ou (W (4 - n)) X := by
      show rU R X + (ou (W (4 - n)) X + NN W X n) = rU R X + NN W X n + ou (W (4 - n)) X
      omega
    have g1 : gg W n R ≤ gg W (n + 1) R := by
      show gg W n R ≤ max (gg W n R) _
      omega
    refine ⟨X, ?_⟩
    cases ho : ouB (W (4 - n)) X with
    | false =>
      have : ou (W (4 - n)) X = 0 := by unfold ou; rw [ho]; rfl
      omega
    | true =>
      have o1 : ou (W (4 - n)) X = 1 := by unfold ou; rw [ho]; rfl
      obtain ⟨k, k4, kw, kX⟩ := ouB_k ho
      have hk : 0 < R k := by
        by_cases c : 0 < R k
        · exact c
        · have r0 : R k = 0 := by have := hR k k4; omega
          have e1 := rU_one R k4 X r0
          have e2 := NN_mono W X (one4 k) n
          have e3 := hc (uni X (one4 k))
          have e4 : ct W n R (uni X (one4 k)) = rU R (uni X (one4 k)) + NN W (uni X (one4 k)) n := rfl
          have e5 : ct W n R X = rU R X + NN W X n := rfl
          have := m2 (uni X (one4 k)) (by omega) k (bk_one k4 X)
          rw [kX] at this
          cases this
      obtain ⟨V, hV⟩ := gg_ge W n (dcr R k) (hR.dcr hk)
      have e1 : ct W n (dcr R k) V = ct W n R V - bI (bk V k) := by
        unfold ct
        rw [rU_dcr R k4]
        omega
      have g2 : gg W n R ≤ gg W n (dcr R k) := by
        have e2 := hc V
        cases hb : bk V k with
        | false =>
          rw [hb] at e1
          have e1 : ct W n (dcr R k) V = ct W n R V - 0 := e1
          omega
        | true =>
          rw [hb] at e1
          have e1 : ct W n (dcr R k) V = ct W n R V - 1 := e1
          have : ¬ ct W n R V = gg W n R := fun z => by
            have := m2 V z k hb
            rw [kX] at this
            cases this
          omega
      have g3 : gk (W (4 - n)) (gg W n) R k = 1 + gg W n (dcr R k) := if_pos ⟨kw, hk⟩
      have g4 : gk (W (4 - n)) (gg W n) R k ≤ gg W (n + 1) R := by
        show _ ≤ max (gg W n R) (max (gk (W (4 - n)) (gg W n) R 0) (max (gk (W (4 - n)) (gg W n) R 1) (max (gk (W (4 - n)) (gg W n) R 2) (gk (W (4 - n)) (gg W n) R 3))))
        have : k = 0 ∨ k = 1 ∨ k = 2 ∨ k = 3 := by omega
        rcases this with rfl | rfl | rfl | rfl <;> omega
      omega
