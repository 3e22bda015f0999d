/-! the clues themselves; who of both -/
def bitsA (b0 b1 b2 b3 b4 b5 b6 b7 b8 b9 : Bool) : Int := bS b9 (iS 1 9) (bS b8 (iS 1 8) (bS b7 (iS 1 7) (bS b6 (iS 1 6) (bS b5 (iS 1 5) (bS b4 (iS 1 4) (bS b3 (iS 1 3) (bS b2 (iS 1 2) (bS b1 (iS 1 1) (bS b0 (iS 1 0) (0))))))))))
theorem bA_0 : ∀ b0 b1 b2 b3 b4 b5 b6 b7 b8 b9 : Bool, iA (iR (bitsA b0 b1 b2 b3 b4 b5 b6 b7 b8 b9) 0) 1 = bI b0 := by decide +kernel
theorem bA_s0 : ∀ b0 b1 b2 b3 b4 b5 b6 b7 b8 b9 : Bool, iO (bitsA b0 b1 b2 b3 b4 b5 b6 b7 b8 b9) (iS 1 0) = bitsA true b1 b2 b3 b4 b5 b6 b7 b8 b9 := by decide +kernel
theorem bA_1 : ∀ b0 b1 b2 b3 b4 b5 b6 b7 b8 b9 : Bool, iA (iR (bitsA b0 b1 b2 b3 b4 b5 b6 b7 b8 b9) 1) 1 = bI b1 := by decide +kernel
theorem bA_s1 : ∀ b0 b1 b2 b3 b4 b5 b6 b7 b8 b9 : Bool, iO (bitsA b0 b1 b2 b3 b4 b5 b6 b7 b8 b9) (iS 1 1) = bitsA b0 true b2 b3 b4 b5 b6 b7 b8 b9 := by decide +kernel
theorem bA_2 : ∀ b0 b1 b2 b3 b4 b5 b6 b7 b8 b9 : Bool, iA (iR (bitsA b0 b1 b2 b3 b4 b5 b6 b7 b8 b9) 2) 1 = bI b2 := by decide +kernel
theorem bA_s2 : ∀ b0 b1 b2 b3 b4 b5 b6 b7 b8 b9 : Bool, iO (bitsA b0 b1 b2 b3 b4 b5 b6 b7 b8 b9) (iS 1 2) = bitsA b0 b1 true b3 b4 b5 b6 b7 b8 b9 := by decide +kernel
theorem bA_3 : ∀ b0 b1 b2 b3 b4 b5 b6 b7 b8 b9 : Bool, iA (iR (bitsA b0 b1 b2 b3 b4 b5 b6 b7 b8 b9) 3) 1 = bI b3 := by decide +kernel
theorem bA_s3 : ∀ b0 b1 b2 b3 b4 b5 b6 b7 b8 b9 : Bool, iO (bitsA b0 b1 b2 b3 b4 b5 b6 b7 b8 b9) (iS 1 3) = bitsA b0 b1 b2 true b4 b5 b6 b7 b8 b9 := by decide +kernel
theorem bA_4 : ∀ b0 b1 b2 b3 b4 b5 b6 b7 b8 b9 : Bool, iA (iR (bitsA b0 b1 b2 b3 b4 b5 b6 b7 b8 b9) 4) 1 = bI b4 := by decide +kernel
theorem bA_s4 : ∀ b0 b1 b2 b3 b4 b5 b6 b7 b8 b9 : Bool, iO (bitsA b0 b1 b2 b3 b4 b5 b6 b7 b8 b9) (iS 1 4) = bitsA b0 b1 b2 b3 true b5 b6 b7 b8 b9 := by decide +kernel
theorem bA_5 : ∀ b0 b1 b2 b3 b4 b5 b6 b7 b8 b9 : Bool, iA (iR (bitsA b0 b1 b2 b3 b4 b5 b6 b7 b8 b9) 5) 1 = bI b5 := by decide +kernel
theorem bA_s5 : ∀ b0 b1 b2 b3 b4 b5 b6 b7 b8 b9 : Bool, iO (bitsA b0 b1 b2 b3 b4 b5 b6 b7 b8 b9) (iS 1 5) = bitsA b0 b1 b2 b3 b4 true b6 b7 b8 b9 := by decide +kernel
theorem bA_6 : ∀ b0 b1 b2 b3 b4 b5 b6 b7 b8 b9 : Bool, iA (iR (bitsA b0 b1 b2 b3 b4 b5 b6 b7 b8 b9) 6) 1 = bI b6 := by decide +kernel
theorem bA_s6 : ∀ b0 b1 b2 b3 b4 b5 b6 b7 b8 b9 : Bool, iO (bitsA b0 b1 b2 b3 b4 b5 b6 b7 b8 b9) (iS 1 6) = bitsA b0 b1 b2 b3 b4 b5 true b7 b8 b9 := by decide +kernel
theorem bA_7 : ∀ b0 b1 b2 b3 b4 b5 b6 b7 b8 b9 : Bool, iA (iR (bitsA b0 b1 b2 b3 b4 b5 b6 b7 b8 b9) 7) 1 = bI b7 := by decide +kernel
theorem bA_s7 : ∀ b0 b1 b2 b3 b4 b5 b6 b7 b8 b9 : Bool, iO (bitsA b0 b1 b2 b3 b4 b5 b6 b7 b8 b9) (iS 1 7) = bitsA b0 b1 b2 b3 b4 b5 b6 true b8 b9 := by decide +kernel
theorem bA_8 : ∀ b0 b1 b2 b3 b4 b5 b6 b7 b8 b9 : Bool, iA (iR (bitsA b0 b1 b2 b3 b4 b5 b6 b7 b8 b9) 8) 1 = bI b8 := by decide +kernel
theorem bA_s8 : ∀ b0 b1 b2 b3 b4 b5 b6 b7 b8 b9 : Bool, iO (bitsA b0 b1 b2 b3 b4 b5 b6 b7 b8 b9) (iS 1 8) = bitsA b0 b1 b2 b3 b4 b5 b6 b7 true b9 := by decide +kernel
theorem bA_9 : ∀ b0 b1 b2 b3 b4 b5 b6 b7 b8 b9 : Bool, iA (iR (bitsA b0 b1 b2 b3 b4 b5 b6 b7 b8 b9) 9) 1 = bI b9 := by decide +kernel
theorem bA_s9 : ∀ b0 b1 b2 b3 b4 b5 b6 b7 b8 b9 : Bool, iO (bitsA b0 b1 b2 b3 b4 b5 b6 b7 b8 b9) (iS 1 9) = bitsA b0 b1 b2 b3 b4 b5 b6 b7 b8 true := by decide +kernel
theorem bA_f : bitsA false false false false false false false false false false = 0 := by decide +kernel
def snE (m : Nat → Nat → Int) (o h : Int) (e : Nat) : Bool := decide ((e : Int) < m 55 21 ∧ m 67 e = o ∧ m 68 e = h)
def sn (m : Nat → Nat → Int) (o h : Int) : Bool := snE m o h 0 || snE m o h 1 || snE m o h 2 || snE m o h 3 || snE m o h 4 || snE m o h 5
def snA (m : Nat → Nat → Int) (o : Int) : Int := bitsA (sn m o 0) (sn m o 1) (sn m o 2) (sn m o 3) (sn m o 4) (sn m o 5) (sn m o 6) (sn m o 7) (sn m o 8) (sn m o 9)
def CLR (m : Nat → Nat → Int) : Prop := (∀ p : Nat, p < 5 → m 39 p = snA m (p : Int)) ∧ (∀ k : Nat, k < 4 → m 40 k = snA m (5 + (k : Int))) ∧ (∀ e : Nat, e < 6 → (e : Int) < m 55 21 → 0 ≤ m 68 e ∧ m 68 e ≤ 9)
def CLR_FP : yMd := [(39, 0, 4), (40, 0, 3), (55, 21, 21), (67, 0, 5), (68, 0, 5)]
theorem snE_congr {m m' : Nat → Nat → Int} (h1 : m' 55 21 = m 55 21) (h2 : ∀ e, e < 6 → m' 67 e = m 67 e) (h3 : ∀ e, e < 6 → m' 68 e = m 68 e) {o h : Int} {e : Nat} (he : e < 6) : snE m' o h e = snE m o h e := by
  unfold snE
  rw [h1, h2 e he, h3 e he]
theorem sn_congr {m m' : Nat → Nat → Int} (h1 : m' 55 21 = m 55 21) (h2 : ∀ e, e < 6 → m' 67 e = m 67 e) (h3 : ∀ e, e < 6 → m' 68 e = m 68 e) (o h : Int) : sn m' o h = sn m o h := by
  unfold sn
  rw [snE_congr h1 h2 h3 (e := 0) (by decide), snE_congr h1 h2 h3 (e := 1) (by decide), snE_congr h1 h2 h3 (e := 2) (by decide), snE_congr h1 h2 h3 (e := 3) (by decide), snE_congr h1 h2 h3 (e := 4) (by decide), snE_congr h1 h2 h3 (e := 5) (by decide)]
theorem snA_congr {m m' : Nat → Nat → Int} {o : Int} (h : ∀ t, sn m' o t = sn m o t) : snA m' o = snA m o := by
  unfold snA
  rw [h 0, h 1, h 2, h 3, h 4, h 5, h 6, h 7, h 8, h 9]
theorem CLR_keep {m m' : Nat → Nat → Int} (h : g_agree CLR_FP m m') (hC : CLR m) : CLR m' := by
  have h1 : m' 55 21 = m 55 21 := h.at 2 rfl 21 (by decide) (by decide)
  have h2 : ∀ e, e < 6 → m' 67 e = m 67 e := fun e he => h.at 3 rfl e (Nat.zero_le _) (by show e ≤ 5; omega)
  have h3 : ∀ e, e < 6 → m' 68 e = m 68 e := fun e he => h.at 4 rfl e (Nat.zero_le _) (by show e ≤ 5; omega)
  refine ⟨fun p hp => ?_, fun k hk => ?_, fun e he he2 => ?_⟩
  · rw [h.at 0 rfl p (Nat.zero_le _) (by show p ≤ 4; omega), snA_congr (sn_congr h1 h2 h3 _)]
    exact hC.1 p hp
  · rw [h.at 1 rfl k (Nat.zero_le _) (by show k ≤ 3; omega), snA_congr (sn_congr h1 h2 h3 _)]
    exact hC.2.1 k hk
  · rw [h1] at he2
    rw [h3 e he]
    exact hC.2.2 e he he2
theorem sn_push {m m' : Nat → Nat → Int} {x h : Int} (t0 : 0 ≤ m 55 21 ∧ m 55 21 < 6) (h1 : m' 55 21 = m 55 21 + 1) (h2 : ∀ e, e < 6 → m' 67 e = if e = (m 55 21).toNat then x else m 67 e) (h3 : ∀ e, e < 6 → m' 68 e = if e = (m 55 21).toNat then h else m 68 e) (o t : Int) : sn m' o t = (sn m o t || decide (x = o ∧ h = t)) := by
  have st : ∀ e : Nat, e < 6 → snE m' o t e = if e = (m 55 21).toNat then decide (x = o ∧ h = t) else snE m o t e := fun e he => by
    unfold snE
    rw [h1, h2 e he, h3 e he]
    by_cases c : e = (m 55 21).toNat
    · rw [if_pos c, if_pos c, if_pos c]
      exact decide_eq_decide.mpr ⟨fun z => z.2, fun z => ⟨by omega, z⟩⟩
    · rw [if_neg c, if_neg c, if_neg c]
      exact decide_eq_decide.mpr ⟨fun z => ⟨by omega, z.2⟩, fun z => ⟨by omega, z.2⟩⟩
  have no : ∀ e : Nat, m 55 21 ≤ (e : Int) → snE m o t e = false := fun e he => decide_eq_false (fun z => by have := z.1; omega)
  have cs : m 55 21 = 0 ∨ m 55 21 = 1 ∨ m 55 21 = 2 ∨ m 55 21 = 3 ∨ m 55 21 = 4 ∨ m 55 21 = 5 := by omega
  unfold sn
  rw [st 0 (by decide), st 1 (by decide), st 2 (by decide), st 3 (by decide), st 4 (by decide), st 5 (by decide)]
  rcases cs with e | e | e | e | e | e
  · rw [if_pos (by omega), if_neg (by omega), if_neg (by omega), if_neg (by omega), if_neg (by omega), if_neg (by omega), no 0 (by omega), no 1 (by omega), no 2 (by omega), no 3 (by omega), no 4 (by omega), no 5 (by omega)]
    simp only [Bool.or_false, Bool.false_or]
  · rw [if_neg (by omega), if_pos (by omega), if_neg (by omega), if_neg (by omega), if_neg (by omega), if_neg (by omega), no 1 (by omega), no 2 (by omega), no 3 (by omega), no 4 (by omega), no 5 (by omega)]
    simp only [Bool.or_false, Bool.false_or]
  · rw [if_neg (by omega), if_neg (by omega), if_pos (by omega), if_neg (by omega), if_neg (by omega), if_neg (by omega), no 2 (by omega), no 3 (by omega), no 4 (by omega), no 5 (by omega)]
    simp only [Bool.or_false, Bool.false_or]
  · rw [if_neg (by omega), if_neg (by omega), if_neg (by omega), if_pos (by omega), if_neg (by omega), if_neg (by omega), no 3 (by omega), no 4 (by omega), no 5 (by omega)]
    simp only [Bool.or_false, Bool.false_or]
  · rw [if_neg (by omega), if_neg (by omega), if_neg (by omega), if_neg (by omega), if_pos (by omega), if_neg (by omega), no 4 (by omega), no 5 (by omega)]
    simp only [Bool.or_false, Bool.false_or]
  · rw [if_neg (by omega), if_neg (by omega), if_neg (by omega), if_neg (by omega), if_neg (by omega), if_pos (by omega), no 5 (by omega)]
    simp only [Bool.or_false, Bool.false_or]
theorem snA_push {m m' : Nat → Nat → Int} {x h o : Int} (hs : ∀ t, sn m' o t = (sn m o t || decide (x = o ∧ h = t))) (h0 : 0 ≤ h ∧ h < 10) : snA m' o = if x = o then iO (snA m o) (iS 1 h) else snA m o := by
  unfold snA
  by_cases c : x = o
  · rw [if_pos c]
    have y : ∀ t : Int, sn m' o t = (sn m o t || decide (h = t)) := fun t => by rw [hs t]; congr 1; exact decide_eq_decide.mpr ⟨fun z => z.2, fun z => ⟨c, z⟩⟩
    have cs : h = 0 ∨ h = 1 ∨ h = 2 ∨ h = 3 ∨ h = 4 ∨ h = 5 ∨ h = 6 ∨ h = 7 ∨ h = 8 ∨ h = 9 := by omega
    rcases cs with e | e | e | e | e | e | e | e | e | e
    · rw [y 0, y 1, y 2, y 3, y 4, y 5, y 6, y 7, y 8, y 9, decide_eq_true (show h = 0 from e), decide_eq_false (show ¬ h = 1 by omega), decide_eq_false (show ¬ h = 2 by omega), decide_eq_false (show ¬ h = 3 by omega), decide_eq_false (show ¬ h = 4 by omega), decide_eq_false (show ¬ h = 5 by omega), decide_eq_false (show ¬ h = 6 by omega), decide_eq_false (show ¬ h = 7 by omega), decide_eq_false (show ¬ h = 8 by omega), decide_eq_false (show ¬ h = 9 by omega), e, bA_s0]
      simp only [Bool.or_false, Bool.or_true]
    · rw [y 0, y 1, y 2, y 3, y 4, y 5, y 6, y 7, y 8, y 9, decide_eq_false (show ¬ h = 0 by omega), decide_eq_true (show h = 1 from e), decide_eq_false (show ¬ h = 2 by omega), decide_eq_false (show ¬ h = 3 by omega), decide_eq_false (show ¬ h = 4 by omega), decide_eq_false (show ¬ h = 5 by omega), decide_eq_false (show ¬ h = 6 by omega), decide_eq_false (show ¬ h = 7 by omega), decide_eq_false (show ¬ h = 8 by omega), decide_eq_false (show ¬ h = 9 by omega), e, bA_s1]
      simp only [Bool.or_false, Bool.or_true]
    · rw [y 0, y 1, y 2, y 3, y 4, y 5, y 6, y 7, y 8, y 9, decide_eq_false (show ¬ h = 0 by omega), decide_eq_false (show ¬ h = 1 by omega), decide_eq_true (show h = 2 from e), decide_eq_false (show ¬ h = 3 by omega), decide_eq_false (show ¬ h = 4 by omega), decide_eq_false (show ¬ h = 5 by omega), decide_eq_false (show ¬ h = 6 by omega), decide_eq_false (show ¬ h = 7 by omega), decide_eq_false (show ¬ h = 8 by omega), decide_eq_false (show ¬ h = 9 by omega), e, bA_s2]
      simp only [Bool.or_false, Bool.or_true]
    · rw [y 0, y 1, y 2, y 3, y 4, y 5, y 6, y 7, y 8, y 9, decide_eq_false (show ¬ h = 0 by omega), decide_eq_false (show ¬ h = 1 by omega), decide_eq_false (show ¬ h = 2 by omega), decide_eq_true (show h = 3 from e), decide_eq_false (show ¬ h = 4 by omega), decide_eq_false (show ¬ h = 5 by omega), decide_eq_false (show ¬ h = 6 by omega), decide_eq_false (show ¬ h = 7 by omega), decide_eq_false (show ¬ h = 8 by omega), decide_eq_false (show ¬ h = 9 by omega), e, bA_s3]
      simp only [Bool.or_false, Bool.or_true]
    · rw [y 0, y 1, y 2, y 3, y 4, y 5, y 6, y 7, y 8, y 9, decide_eq_false (show ¬ h = 0 by omega), decide_eq_false (show ¬ h = 1 by omega), decide_eq_false (show ¬ h = 2 by omega), decide_eq_false (show ¬ h = 3 by omega), decide_eq_true (show h = 4 from e), decide_eq_false (show ¬ h = 5 by omega), decide_eq_false (show ¬ h = 6 by omega), decide_eq_false (show ¬ h = 7 by omega), decide_eq_false (show ¬ h = 8 by omega), decide_eq_false (show ¬ h = 9 by omega), e, bA_s4]
      simp only [Bool.or_false, Bool.or_true]
    · rw [y 0, y 1, y 2, y 3, y 4, y 5, y 6, y 7, y 8, y 9, decide_eq_false (show ¬ h = 0 by omega), decide_eq_false (show ¬ h = 1 by omega), decide_eq_false (show ¬ h = 2 by omega), decide_eq_false (show ¬ h = 3 by omega), decide_eq_false (show ¬ h = 4 by omega), decide_eq_true (show h = 5 from e), decide_eq_false (show ¬ h = 6 by omega), decide_eq_false (show ¬ h = 7 by omega), decide_eq_false (show ¬ h = 8 by omega), decide_eq_false (show ¬ h = 9 by omega), e, bA_s5]
      simp only [Bool.or_false, Bool.or_true]
    · rw [y 0, y 1, y 2, y 3, y 4, y 5, y 6, y 7, y 8, y 9, decide_eq_false (show ¬ h = 0 by omega), decide_eq_false (show ¬ h = 1 by omega), decide_eq_false (show ¬ h = 2 by omega), decide_eq_false (show ¬ h = 3 by omega), decide_eq_false (show ¬ h = 4 by omega), decide_eq_false (show ¬ h = 5 by omega), decide_eq_true (show h = 6 from e), decide_eq_false (show ¬ h = 7 by omega), decide_eq_false (show ¬ h = 8 by omega), decide_eq_false (show ¬ h = 9 by omega), e, bA_s6]
      simp only [Bool.or_false, Bool.or_true]
    · rw [y 0, y 1, y 2, y 3, y 4, y 5, y 6, y 7, y 8, y 9, decide_eq_false (show ¬ h = 0 by omega), decide_eq_false (show ¬ h = 1 by omega), decide_eq_false (show ¬ h = 2 by omega), decide_eq_false (show ¬ h = 3 by omega), decide_eq_false (show ¬ h = 4 by omega), decide_eq_false (show ¬ h = 5 by omega), decide_eq_false (show ¬ h = 6 by omega), decide_eq_true (show h = 7 from e), decide_eq_false (show ¬ h = 8 by omega), decide_eq_false (show ¬ h = 9 by omega), e, bA_s7]
      simp only [Bool.or_false, Bool.or_true]
    · rw [y 0, y 1, y 2, y 3, y 4, y 5, y 6, y 7, y 8, y 9, decide_eq_false (show ¬ h = 0 by omega), decide_eq_false (show ¬ h = 1 by omega), decide_eq_false (show ¬ h = 2 by omega), decide_eq_false (show ¬ h = 3 by omega), decide_eq_false (show ¬ h = 4 by omega), decide_eq_false (show ¬ h = 5 by omega), decide_eq_false (show ¬ h = 6 by omega), decide_eq_false (show ¬ h = 7 by omega), decide_eq_true (show h = 8 from e), decide_eq_false (show ¬ h = 9 by omega), e, bA_s8]
      simp only [Bool.or_false, Bool.or_true]
    · rw [y 0, y 1, y 2, y 3, y 4, y 5, y 6, y 7, y 8, y 9, decide_eq_false (show ¬ h = 0 by omega), decide_eq_false (show ¬ h = 1 by omega), decide_eq_false (show ¬ h = 2 by omega), decide_eq_false (show ¬ h = 3 by omega), decide_eq_false (show ¬ h = 4 by omega), decide_eq_false (show ¬ h = 5 by omega), decide_eq_false (show ¬ h = 6 by omega), decide_eq_false (show ¬ h = 7 by omega), decide_eq_false (show ¬ h = 8 by omega), decide_eq_true (show h = 9 from e), e, bA_s9]
      simp only [Bool.or_false, Bool.or_true]
  · rw [if_neg c]
    have y : ∀ t : Int, sn m' o t = sn m o t := fun t => by rw [hs t, decide_eq_false (fun z => c z.1), Bool.or_false]
    rw [y 0, y 1, y 2, y 3, y 4, y 5, y 6, y 7, y 8, y 9]
theorem CLR_see {m m1 m2 : Nat → Nat → Int} (hC : CLR m) {x h : Int} (t0 : 0 ≤ m 55 21 ∧ m 55 21 < 6) (hx : 0 ≤ x ∧ x < 5) (h0 : 0 ≤ h ∧ h < 10) (e1 : m1 = up (up m 39 x.toNat (iO (m 39 x.toNat) (iS 1 h))) 38 2 (m 38 2 + 1)) (e2 : m2 = up (up (up m1 67 (m1 55 21).toNat x) 68 (m1 55 21).toNat h) 55 21 (m1 55 21 + 1)) : CLR m2 := by
  have a : m1 55 21 = m 55 21 := by rw [e1]; rfl
  rw [a] at e2
  have h1 : m2 55 21 = m 55 21 + 1 := by rw [e2, up_eq]
  have h2 : ∀ e, e < 6 → m2 67 e = if e = (m 55 21).toNat then x else m 67 e := fun e _ => by
    rw [e2, up_nc (by decide), up_nc (by decide)]
    by_cases c : e = (m 55 21).toNat
    · rw [if_pos c, c, up_eq]
    · rw [if_neg c, up_ne (fun z => c z.2), e1]; rfl
  have h3 : ∀ e, e < 6 → m2 68 e = if e = (m 55 21).toNat then h else m 68 e := fun e _ => by
    rw [e2, up_nc (by decide)]
    by_cases c : e = (m 55 21).toNat
    · rw [if_pos c, c, up_eq]
    · rw [if_neg c, up_ne (fun z => c z.2), up_nc (by decide), e1]; rfl
  have sp := fun o => snA_push (o := o) (fun t => sn_push t0 h1 h2 h3 o t) h0
  refine ⟨fun p hp => ?_, fun k hk => ?_, fun e he he2 => ?_⟩
  · rw [sp]
    have q : m2 39 p = if p = x.toNat then iO (m 39 x.toNat) (iS 1 h) else m 39 p := by
      rw [e2, up_nc (by decide), up_nc (by decide), up_nc (by decide), e1, up_nc (by decide)]
      by_cases c : p = x.toNat
      · rw [if_pos c, c, up_eq]
      · rw [if_neg c, up_ne (fun z => c z.2)]
    rw [q]
    by_cases c : p = x.toNat
    · rw [if_pos c, if_pos (show x = (p : Int) by omega), ← hC.1 p hp, c]
    · rw [if_neg c, if_neg (show ¬ x = (p : Int) by omega)]
      exact hC.1 p hp
  · rw [sp, if_neg (show ¬ x = 5 + (k : Int) by omega), ← hC.2.1 k hk, e2, up_nc (by decide), up_nc (by decide), up_nc (by decide), e1]
    rfl
  · rw [h3 e he]
    by_cases c : e = (m 55 21).toNat
    · rw [if_pos c]; omega
    · rw [if_neg c]
      exact hC.2.2 e he (by rw [h1] at he2; omega)
theorem CLR_deed {m m1 m2 : Nat → Nat → Int} (hC : CLR m) {x h : Int} (t0 : 0 ≤ m 55 21 ∧ m 55 21 < 6) (hx : 0 ≤ x ∧ x < 4) (h0 : 0 ≤ h ∧ h < 10) (e1 : m1 = up (up m 40 x.toNat (iO (m 40 x.toNat) (iS 1 h))) 38 2 (m 38 2 + 1)) (e2 : m2 = up (up (up m1 67 (m1 55 21).toNat (5 + x)) 68 (m1 55 21).toNat h) 55 21 (m1 55 21 + 1)) : CLR m2 := by
  have a : m1 55 21 = m 55 21 := by rw [e1]; rfl
  rw [a] at e2
  have h1 : m2 55 21 = m 55 21 + 1 := by rw [e2, up_eq]
  have h2 : ∀ e, e < 6 → m2 67 e = if e = (m 55 21).toNat then 5 + x else m 67 e := fun e _ => by
    rw [e2, up_nc (by decide), up_nc (by decide)]
    by_cases c : e = (m 55 21).toNat
    · rw [if_pos c, c, up_eq]
    · rw [if_neg c, up_ne (fun z => c z.2), e1]; rfl
  have h3 : ∀ e, e < 6 → m2 68 e = if e = (m 55 21).toNat then h else m 68 e := fun e _ => by
    rw [e2, up_nc (by decide)]
    by_cases c : e = (m 55 21).toNat
    · rw [if_pos c, c, up_eq]
    · rw [if_neg c, up_ne (fun z => c z.2), up_nc (by decide), e1]; rfl
  have sp := fun o => snA_push (o := o) (fun t => sn_push t0 h1 h2 h3 o t) h0
  refine ⟨fun p hp => ?_, fun k hk => ?_, fun e he he2 => ?_⟩
  · rw [sp, if_neg (show ¬ 5 + x = (p : Int) by omega), ← hC.1 p hp, e2, up_nc (by decide), up_nc (by decide), up_nc (by decide), e1]
    rfl
  · rw [sp]
    have q : m2 40 k = if k = x.toNat then iO (m 40 x.toNat) (iS 1 h) else m 40 k := by
      rw [e2, up_nc (by decide), up_nc (by decide), up_nc (by decide), e1, up_nc (by decide)]
      by_cases c : k = x.toNat
      · rw [if_pos c, c, up_eq]
      · rw [if_neg c, up_ne (fun z => c z.2)]
    rw [q]
    by_cases c : k = x.toNat
    · rw [if_pos c, if_pos (show 5 + x = 5 + (k : Int) by omega), ← hC.2.1 k hk, c]
    · rw [if_neg c, if_neg (show ¬ 5 + x = 5 + (k : Int) by omega)]
      exact hC.2.1 k hk
  · rw [h3 e he]
    by_cases c : e = (m 55 21).toNat
    · rw [if_pos c]; omega
    · rw [if_neg c]
      exact hC.2.2 e he (by rw [h1] at he2; omega)
theorem CLR_0 {m : Nat → Nat → Int} (ht : m 55 21 = 0) (h1 : ∀ p : Nat, p < 5 → m 39 p = 0) (h2 : ∀ k : Nat, k < 4 → m 40 k = 0) : CLR m := by
  have z : ∀ o t : Int, sn m o t = false := fun o t => by
    have n : ∀ e : Nat, snE m o t e = false := fun e => decide_eq_false (fun y => by have := y.1; omega)
    unfold sn
    rw [n, n, n, n, n, n]
    rfl
  have zA : ∀ o : Int, snA m o = 0 := fun o => by
    unfold snA
    rw [z, z, z, z, z, z, z, z, z, z]
    exact bA_f
  exact ⟨fun p hp => by rw [zA]; exact h1 p hp, fun k hk => by rw [zA]; exact h2 k hk, fun e _ he => by omega⟩
def cdT (m : Nat → Nat → Int) (x k t : Int) : Bool := !(decide (iA (iR (m 40 k.toNat) (t)) (1) = 1) && (decide (iA (iR (m 39 x.toNat) (t)) (1) = 1) || !(decide ((0 ≤ x ∧ x < m 3 6) ∧ m 6 (x).toNat ≤ t ∧ t ≤ m 7 (x).toNat))))
def cd10 (_ : Nat → Nat → Int) (_ _ : Int) : Bool := true
def cd9 (m : Nat → Nat → Int) (x k : Int) : Bool := cdT m x k 9 && cd10 m x k
def cd8 (m : Nat → Nat → Int) (x k : Int) : Bool := cdT m x k 8 && cd9 m x k
def cd7 (m : Nat → Nat → Int) (x k : Int) : Bool := cdT m x k 7 && cd8 m x k
def cd6 (m : Nat → Nat → Int) (x k : Int) : Bool := cdT m x k 6 && cd7 m x k
def cd5 (m : Nat → Nat → Int) (x k : Int) : Bool := cdT m x k 5 && cd6 m x k
def cd4 (m : Nat → Nat → Int) (x k : Int) : Bool := cdT m x k 4 && cd5 m x k
def cd3 (m : Nat → Nat → Int) (x k : Int) : Bool := cdT m x k 3 && cd4 m x k
def cd2 (m : Nat → Nat → Int) (x k : Int) : Bool := cdT m x k 2 && cd3 m x k
def cd1 (m : Nat → Nat → Int) (x k : Int) : Bool := cdT m x k 1 && cd2 m x k
def cd0 (m : Nat → Nat → Int) (x k : Int) : Bool := cdT m x k 0 && cd1 m x k
set_option maxHeartbeats 1000000 in
theorem t156 {m : Nat → Nat → Int} (hp : 0 ≤ m 3 6 ∧ m 3 6 ≤ 5) {x k : Int} (x1 : 0 ≤ x ∧ x < 5) (k1 : 0 ≤ k ∧ k < 4) : h_M 156 [.ref 38, .ref 3, fi (x), fi (k)] m (some (fi (bI (cd0 m x k)))) m := h_M_of (R := ev_r156) rfl (fun hc hw hm => by
  have hL : f_L (lv_args 0 [.ref 38, .ref 3, fi (x), fi (k)]) [(0, .ref 38), (1, .ref 3), (2, fi (x)), (3, fi (k))] := f_L_of rfl
  generalize lv_args 0 [.ref 38, .ref 3, fi (x), fi (k)] = L at hL
  show x_W none (2, 0, 7, 3, 3, 2, 43, 0, 0, ev_t156) 0 L [] hc 0 0 _
  have hR := gi_R hm
  have hK10 : ∀ (hc : ev_H) (L : ev_L), y_in yGw hc → gi hc = m → f_L L [(4, fi (10)), (0, .ref 38), (1, .ref 3), (2, fi (x)), (3, fi (k))] → x_W none (2, 0, 7, 3, 3, 2, 43, 0, 0, ev_t156) 23 L [] hc 0 0 (fun r' h' => r' = some (fi (bI (cd10 m x k))) ∧ y_in yGw h' ∧ gi h' = m) := fun hc L hw hm hL => by
    refine f_il 0 rfl hL rfl ?_
    refine f_bipush (n := 10) rfl (by decide) ?_
    refine f_ic rfl (by decide) (by decide) (fun _ => ?_) (fun c_9 => absurd (show (10 : Int) ≤ (10 : Int) from (by decide)) c_9)
    refine f_s [fi (1)] rfl rfl ?_
    exact f_ret2 rfl (Or.inr rfl) ⟨rfl, hw, hm⟩
  have hK9 : ∀ (hc : ev_H) (L : ev_L), y_in yGw hc → gi hc = m → f_L L [(4, fi (9)), (0, .ref 38), (1, .ref 3), (2, fi (x)), (3, fi (k))] → x_W none (2, 0, 7, 3, 3, 2, 43, 0, 0, ev_t156) 23 L [] hc 0 0 (fun r' h' => r' = some (fi (bI (cd9 m x k))) ∧ y_in yGw h' ∧ gi h' = m) := fun hc L hw hm hL => by
    refine f_il 0 rfl hL rfl ?_
    refine f_bipush (n := 10) rfl (by decide) ?_
    refine f_ic rfl (by decide) (by decide) (fun c_9 => absurd (show (10 : Int) ≤ (9 : Int) from c_9) (by decide)) (fun _ => ?_)
    refine f_aln 1 rfl hL rfl ?_
    refine m_gfr so38 rfl hw rfl (by decide) ?_
    refine f_iln 4 rfl hL rfl ?_
    refine m_ia sa40 (m 40 (k).toNat) rfl hw hm (by omega) (by omega) (by decide) rfl ?_
    refine f_il 0 rfl hL rfl ?_
    refine b_ishr rfl ?_
    refine f_s [fi (1), fi (iR (m 40 (k).toNat) (9))] rfl rfl ?_
    refine b_iand rfl ?_
    refine f_s [fi (1), fi (iA (iR (m 40 (k).toNat) (9)) (1))] rfl rfl ?_
    refine f_ic rfl iA_r (by decide) (fun c1 => ?_) (fun c1 => ?_)
    · have c1 : ¬ (iA (iR (m 40 (k).toNat) (9)) (1) : Int) = (1 : Int) := c1
      refine f_s [fi (0)] rfl rfl ?_
      refine f_ist [(5, fi (0)), (4, fi (9)), (0, .ref 38), (1, .ref 3), (2, fi (x)), (3, fi (k))] rfl (by decide) hL rfl (fun L1 hL1 => ?_)
      refine f_aln 2 rfl hL1 rfl ?_
      refine m_gfr so38 rfl hw rfl (by decide) ?_
      refine f_iln 4 rfl hL1 rfl ?_
      refine m_ia sa39 (m 39 (x).toNat) rfl hw hm (by omega) (by omega) (by decide) rfl ?_
      refine f_il 1 rfl hL1 rfl ?_
      refine b_ishr rfl ?_
      refine f_s [fi (1), fi (iR (m 39 (x).toNat) (9))] rfl rfl ?_
      refine b_iand rfl ?_
      refine f_s [fi (1), fi (iA (iR (m 39 (x).toNat) (9)) (1))] rfl rfl ?_
      refine f_ic rfl iA_r (by decide) (fun c2 => ?_) (fun c2 => ?_)
      · have c2 : ¬ (iA (iR (m 39 (x).toNat) (9)) (1) : Int) = (1 : Int) := c2
        refine f_s [fi (0)] rfl rfl ?_
        refine f_ist [(6, fi (0)), (5, fi (0)), (4, fi (9)), (0, .ref 38), (1, .ref 3), (2, fi (x)), (3, fi (k))] rfl (by decide) hL1 rfl (fun L2 hL2 => ?_)
        refine f_il 1 rfl hL2 rfl ?_
        refine f_if rfl (by decide) (fun _ => ?_) (fun c_9 => absurd (show (0 : Int) = (0 : Int) from (by decide)) c_9)
        refine f_inc 2 [(4, fi (10)), (6, fi (0)), (5, fi (0)), (0, .ref 38), (1, .ref 3), (2, fi (x)), (3, fi (k))] rfl (by decide) hL2 rfl rfl (fun L3 hL3 => ?_)
        refine f_goto rfl ?_
        rw [show cd9 m x k = (cdT m x k 9 && cd10 m x k) from rfl, show cdT m x k 9 = true by unfold cdT; rw [decide_eq_false c1, Bool.false_and]; rfl, Bool.true_and]
        exact hK10 hc _ hw hm (hL3.sel [0, 3, 4, 5, 6] rfl)
      · have c2 : ¬ (¬ (iA (iR (m 39 (x).toNat) (9)) (1) : Int) = (1 : Int)) := c2
        refine f_s [fi (1)] rfl rfl ?_
        refine f_goto rfl ?_
        refine f_ist [(6, fi (1)), (5, fi (0)), (4, fi (9)), (0, .ref 38), (1, .ref 3), (2, fi (x)), (3, fi (k))] rfl (by decide) hL1 rfl (fun L4 hL4 => ?_)
        refine f_il 1 rfl hL4 rfl ?_
        refine f_if rfl (by decide) (fun _ => ?_) (fun c_9 => absurd (show (0 : Int) = (0 : Int) from (by decide)) c_9)
        refine f_inc 2 [(4, fi (10)), (6, fi (1)), (5, fi (0)), (0, .ref 38), (1, .ref 3), (2, fi (x)), (3, fi (k))] rfl (by decide) hL4 rfl rfl (fun L5 hL5 => ?_)
        refine f_goto rfl ?_
        rw [show cd9 m x k = (cdT m x k 9 && cd10 m x k) from rfl, show cdT m x k 9 = true by unfold cdT; rw [decide_eq_false c1, Bool.false_and]; rfl, Bool.true_and]
        exact hK10 hc _ hw hm (hL5.sel [0, 3, 4, 5, 6] rfl)
    · have c1 : ¬ (¬ (iA (iR (m 40 (k).toNat) (9)) (1) : Int) = (1 : Int)) := c1
      have c1 : iA (iR (m 40 (k).toNat) (9)) (1) = 1 := by omega
      refine f_s [fi (1)] rfl rfl ?_
      refine f_goto rfl ?_
      refine f_ist [(5, fi (1)), (4, fi (9)), (0, .ref 38), (1, .ref 3), (2, fi (x)), (3, fi (k))] rfl (by decide) hL rfl (fun L6 hL6 => ?_)
      refine f_aln 2 rfl hL6 rfl ?_
      refine m_gfr so38 rfl hw rfl (by decide) ?_
      refine f_iln 4 rfl hL6 rfl ?_
      refine m_ia sa39 (m 39 (x).toNat) rfl hw hm (by omega) (by omega) (by decide) rfl ?_
      refine f_il 1 rfl hL6 rfl ?_
      refine b_ishr rfl ?_
      refine f_s [fi (1), fi (iR (m 39 (x).toNat) (9))] rfl rfl ?_
      refine b_iand rfl ?_
      refine f_s [fi (1), fi (iA (iR (m 39 (x).toNat) (9)) (1))] rfl rfl ?_
      refine f_ic rfl iA_r (by decide) (fun c2 => ?_) (fun c2 => ?_)
      · have c2 : ¬ (iA (iR (m 39 (x).toNat) (9)) (1) : Int) = (1 : Int) := c2
        refine f_s [fi (0)] rfl rfl ?_
        refine f_ist [(6, fi (0)), (5, fi (1)), (4, fi (9)), (0, .ref 38), (1, .ref 3), (2, fi (x)), (3, fi (k))] rfl (by decide) hL6 rfl (fun L7 hL7 => ?_)
        refine f_il 1 rfl hL7 rfl ?_
        refine f_if rfl (by decide) (fun c_9 => absurd (show (1 : Int) = (0 : Int) from c_9) (by decide)) (fun _ => ?_)
        refine f_il 0 rfl hL7 rfl ?_
        refine f_if rfl (by decide) (fun c_9 => absurd (show ¬ (0 : Int) = (0 : Int) from c_9) (by decide)) (fun _ => ?_)
        refine f_aln 4 rfl hL7 rfl ?_
        refine f_iln 5 rfl hL7 rfl ?_
        refine f_il 2 rfl hL7 rfl ?_
        refine m_k1 (t84 (h := 9) hp (by omega) (by decide)) hw hm rfl rfl rfl (m_ar so3 hw rfl) rfl (fun hc1 hw1 hm1 => ?_)
        refine f_if rfl (bI_r _) (fun c3 => ?_) (fun c3 => ?_)
        · have c3 : ¬ (bI (decide ((0 ≤ x ∧ x < m 3 6) ∧ m 6 (x).toNat ≤ 9 ∧ 9 ≤ m 7 (x).toNat)) : Int) = (0 : Int) := c3
          have c3 : (0 ≤ x ∧ x < m 3 6) ∧ m 6 (x).toNat ≤ 9 ∧ 9 ≤ m 7 (x).toNat := bI_t c3
          refine f_inc 2 [(4, fi (10)), (6, fi (0)), (5, fi (1)), (0, .ref 38), (1, .ref 3), (2, fi (x)), (3, fi (k))] rfl (by decide) hL7 rfl rfl (fun L8 hL8 => ?_)
          refine f_goto rfl ?_
          rw [show cd9 m x k = (cdT m x k 9 && cd10 m x k) from rfl, show cdT m x k 9 = true by unfold cdT; rw [decide_eq_true c1, decide_eq_false c2, decide_eq_true c3]; rfl, Bool.true_and]
          exact hK10 hc1 _ hw1 hm1 (hL8.sel [0, 3, 4, 5, 6] rfl)
        · have c3 : ¬ (¬ (bI (decide ((0 ≤ x ∧ x < m 3 6) ∧ m 6 (x).toNat ≤ 9 ∧ 9 ≤ m 7 (x).toNat)) : Int) = (0 : Int)) := c3
          have c3 : ¬ ((0 ≤ x ∧ x < m 3 6) ∧ m 6 (x).toNat ≤ 9 ∧ 9 ≤ m 7 (x).toNat) := bI_n c3
          refine f_s [fi (0)] rfl rfl ?_
          exact f_ret2 rfl (Or.inl rfl) ⟨by rw [show cd9 m x k = (cdT m x k 9 && cd10 m x k) from rfl, show cdT m x k 9 = false by unfold cdT; rw [decide_eq_true c1, decide_eq_false c2, decide_eq_false c3]; rfl]; rfl, hw1, hm1⟩
      · have c2 : ¬ (¬ (iA (iR (m 39 (x).toNat) (9)) (1) : Int) = (1 : Int)) := c2
        have c2 : iA (iR (m 39 (x).toNat) (9)) (1) = 1 := by omega
        refine f_s [fi (1)] rfl rfl ?_
        refine f_goto rfl ?_
        refine f_ist [(6, fi (1)), (5, fi (1)), (4, fi (9)), (0, .ref 38), (1, .ref 3), (2, fi (x)), (3, fi (k))] rfl (by decide) hL6 rfl (fun L9 hL9 => ?_)
        refine f_il 1 rfl hL9 rfl ?_
        refine f_if rfl (by decide) (fun c_9 => absurd (show (1 : Int) = (0 : Int) from c_9) (by decide)) (fun _ => ?_)
        refine f_il 0 rfl hL9 rfl ?_
        refine f_if rfl (by decide) (fun _ => ?_) (fun c_9 => absurd (show ¬ (1 : Int) = (0 : Int) from (by decide)) c_9)
        refine f_s [fi (0)] rfl rfl ?_
        exact f_ret2 rfl (Or.inl rfl) ⟨by rw [show cd9 m x k = (cdT m x k 9 && cd10 m x k) from rfl, show cdT m x k 9 = false by unfold cdT; rw [decide_eq_true c1, decide_eq_true c2, Bool.true_or]; rfl]; rfl, hw, hm⟩
  have hK8 : ∀ (hc : ev_H) (L : ev_L), y_in yGw hc → gi hc = m → f_L L [(4, fi (8)), (0, .ref 38), (1, .ref 3), (2, fi (x)), (3, fi (k))] → x_W none (2, 0, 7, 3, 3, 2, 43, 0, 0, ev_t156) 23 L [] hc 0 0 (fun r' h' => r' = some (fi (bI (cd8 m x k))) ∧ y_in yGw h' ∧ gi h' = m) := fun hc L hw hm hL => by
    refine f_il 0 rfl hL rfl ?_
    refine f_bipush (n := 10) rfl (by decide) ?_
    refine f_ic rfl (by decide) (by decide) (fun c_9 => absurd (show (10 : Int) ≤ (8 : Int) from c_9) (by decide)) (fun _ => ?_)
    refine f_aln 1 rfl hL rfl ?_
    refine m_gfr so38 rfl hw rfl (by decide) ?_
    refine f_iln 4 rfl hL rfl ?_
    refine m_ia sa40 (m 40 (k).toNat) rfl hw hm (by omega) (by omega) (by decide) rfl ?_
    refine f_il 0 rfl hL rfl ?_
    refine b_ishr rfl ?_
    refine f_s [fi (1), fi (iR (m 40 (k).toNat) (8))] rfl rfl ?_
    refine b_iand rfl ?_
    refine f_s [fi (1), fi (iA (iR (m 40 (k).toNat) (8)) (1))] rfl rfl ?_
    refine f_ic rfl iA_r (by decide) (fun c1 => ?_) (fun c1 => ?_)
    · have c1 : ¬ (iA (iR (m 40 (k).toNat) (8)) (1) : Int) = (1 : Int) := c1
      refine f_s [fi (0)] rfl rfl ?_
      refine f_ist [(5, fi (0)), (4, fi (8)), (0, .ref 38), (1, .ref 3), (2, fi (x)), (3, fi (k))] rfl (by decide) hL rfl (fun L10 hL10 => ?_)
      refine f_aln 2 rfl hL10 rfl ?_
      refine m_gfr so38 rfl hw rfl (by decide) ?_
      refine f_iln 4 rfl hL10 rfl ?_
      refine m_ia sa39 (m 39 (x).toNat) rfl hw hm (by omega) (by omega) (by decide) rfl ?_
      refine f_il 1 rfl hL10 rfl ?_
      refine b_ishr rfl ?_
      refine f_s [fi (1), fi (iR (m 39 (x).toNat) (8))] rfl rfl ?_
      refine b_iand rfl ?_
      refine f_s [fi (1), fi (iA (iR (m 39 (x).toNat) (8)) (1))] rfl rfl ?_
      refine f_ic rfl iA_r (by decide) (fun c2 => ?_) (fun c2 => ?_)
      · have c2 : ¬ (iA (iR (m 39 (x).toNat) (8)) (1) : Int) = (1 : Int) := c2
        refine f_s [fi (0)] rfl rfl ?_
        refine f_ist [(6, fi (0)), (5, fi (0)), (4, fi (8)), (0, .ref 38), (1, .ref 3), (2, fi (x)), (3, fi (k))] rfl (by decide) hL10 rfl (fun L11 hL11 => ?_)
        refine f_il 1 rfl hL11 rfl ?_
        refine f_if rfl (by decide) (fun _ => ?_) (fun c_9 => absurd (show (0 : Int) = (0 : Int) from (by decide)) c_9)
        refine f_inc 2 [(4, fi (9)), (6, fi (0)), (5, fi (0)), (0, .ref 38), (1, .ref 3), (2, fi (x)), (3, fi (k))] rfl (by decide) hL11 rfl rfl (fun L12 hL12 => ?_)
        refine f_goto rfl ?_
        rw [show cd8 m x k = (cdT m x k 8 && cd9 m x k) from rfl, show cdT m x k 8 = true by unfold cdT; rw [decide_eq_false c1, Bool.false_and]; rfl, Bool.true_and]
        exact hK9 hc _ hw hm (hL12.sel [0, 3, 4, 5, 6] rfl)
      · have c2 : ¬ (¬ (iA (iR (m 39 (x).toNat) (8)) (1) : Int) = (1 : Int)) := c2
        refine f_s [fi (1)] rfl rfl ?_
        refine f_goto rfl ?_
        refine f_ist [(6, fi (1)), (5, fi (0)), (4, fi (8)), (0, .ref 38), (1, .ref 3), (2, fi (x)), (3, fi (k))] rfl (by decide) hL10 rfl (fun L13 hL13 => ?_)
        refine f_il 1 rfl hL13 rfl ?_
        refine f_if rfl (by decide) (fun _ => ?_) (fun c_9 => absurd (show (0 : Int) = (0 : Int) from (by decide)) c_9)
        refine f_inc 2 [(4, fi (9)), (6, fi (1)), (5, fi (0)), (0, .ref 38), (1, .ref 3), (2, fi (x)), (3, fi (k))] rfl (by decide) hL13 rfl rfl (fun L14 hL14 => ?_)
        refine f_goto rfl ?_
        rw [show cd8 m x k = (cdT m x k 8 && cd9 m x k) from rfl, show cdT m x k 8 = true by unfold cdT; rw [decide_eq_false c1, Bool.false_and]; rfl, Bool.true_and]
        exact hK9 hc _ hw hm (hL14.sel [0, 3, 4, 5, 6] rfl)
    · have c1 : ¬ (¬ (iA (iR (m 40 (k).toNat) (8)) (1) : Int) = (1 : Int)) := c1
      have c1 : iA (iR (m 40 (k).toNat) (8)) (1) = 1 := by omega
      refine f_s [fi (1)] rfl rfl ?_
      refine f_goto rfl ?_
      refine f_ist [(5, fi (1)), (4, fi (8)), (0, .ref 38), (1, .ref 3), (2, fi (x)), (3, fi (k))] rfl (by decide) hL rfl (fun L15 hL15 => ?_)
      refine f_aln 2 rfl hL15 rfl ?_
      refine m_gfr so38 rfl hw rfl (by decide) ?_
      refine f_iln 4 rfl hL15 rfl ?_
      refine m_ia sa39 (m 39 (x).toNat) rfl hw hm (by omega) (by omega) (by decide) rfl ?_
      refine f_il 1 rfl hL15 rfl ?_
      refine b_ishr rfl ?_
      refine f_s [fi (1), fi (iR (m 39 (x).toNat) (8))] rfl rfl ?_
      refine b_iand rfl ?_
      refine f_s [fi (1), fi (iA (iR (m 39 (x).toNat) (8)) (1))] rfl rfl ?_
      refine f_ic rfl iA_r (by decide) (fun c2 => ?_) (fun c2 => ?_)
      · have c2 : ¬ (iA (iR (m 39 (x).toNat) (8)) (1) : Int) = (1 : Int) := c2
        refine f_s [fi (0)] rfl rfl ?_
        refine f_ist [(6, fi (0)), (5, fi (1)), (4, fi (8)), (0, .ref 38), (1, .ref 3), (2, fi (x)), (3, fi (k))] rfl (by decide) hL15 rfl (fun L16 hL16 => ?_)
        refine f_il 1 rfl hL16 rfl ?_
        refine f_if rfl (by decide) (fun c_9 => absurd (show (1 : Int) = (0 : Int) from c_9) (by decide)) (fun _ => ?_)
        refine f_il 0 rfl hL16 rfl ?_
        refine f_if rfl (by decide) (fun c_9 => absurd (show ¬ (0 : Int) = (0 : Int) from c_9) (by decide)) (fun _ => ?_)
        refine f_aln 4 rfl hL16 rfl ?_
        refine f_iln 5 rfl hL16 rfl ?_
        refine f_il 2 rfl hL16 rfl ?_
        refine m_k1 (t84 (h := 8) hp (by omega) (by decide)) hw hm rfl rfl rfl (m_ar so3 hw rfl) rfl (fun hc2 hw2 hm2 => ?_)
        refine f_if rfl (bI_r _) (fun c3 => ?_) (fun c3 => ?_)
        · have c3 : ¬ (bI (decide ((0 ≤ x ∧ x < m 3 6) ∧ m 6 (x).toNat ≤ 8 ∧ 8 ≤ m 7 (x).toNat)) : Int) = (0 : Int) := c3
          have c3 : (0 ≤ x ∧ x < m 3 6) ∧ m 6 (x).toNat ≤ 8 ∧ 8 ≤ m 7 (x).toNat := bI_t c3
          refine f_inc 2 [(4, fi (9)), (6, fi (0)), (5, fi (1)), (0, .ref 38), (1, .ref 3), (2, fi (x)), (3, fi (k))] rfl (by decide) hL16 rfl rfl (fun L17 hL17 => ?_)
          refine f_goto rfl ?_
          rw [show cd8 m x k = (cdT m x k 8 && cd9 m x k) from rfl, show cdT m x k 8 = true by unfold cdT; rw [decide_eq_true c1, decide_eq_false c2, decide_eq_true c3]; rfl, Bool.true_and]
          exact hK9 hc2 _ hw2 hm2 (hL17.sel [0, 3, 4, 5, 6] rfl)
        · have c3 : ¬ (¬ (bI (decide ((0 ≤ x ∧ x < m 3 6) ∧ m 6 (x).toNat ≤ 8 ∧ 8 ≤ m 7 (x).toNat)) : Int) = (0 : Int)) := c3
          have c3 : ¬ ((0 ≤ x ∧ x < m 3 6) ∧ m 6 (x).toNat ≤ 8 ∧ 8 ≤ m 7 (x).toNat) := bI_n c3
          refine f_s [fi (0)] rfl rfl ?_
          exact f_ret2 rfl (Or.inl rfl) ⟨by rw [show cd8 m x k = (cdT m x k 8 && cd9 m x k) from rfl, show cdT m x k 8 = false by unfold cdT; rw [decide_eq_true c1, decide_eq_false c2, decide_eq_false c3]; rfl]; rfl, hw2, hm2⟩
      · have c2 : ¬ (¬ (iA (iR (m 39 (x).toNat) (8)) (1) : Int) = (1 : Int)) := c2
        have c2 : iA (iR (m 39 (x).toNat) (8)) (1) = 1 := by omega
        refine f_s [fi (1)] rfl rfl ?_
        refine f_goto rfl ?_
        refine f_ist [(6, fi (1)), (5, fi (1)), (4, fi (8)), (0, .ref 38), (1, .ref 3), (2, fi (x)), (3, fi (k))] rfl (by decide) hL15 rfl (fun L18 hL18 => ?_)
        refine f_il 1 rfl hL18 rfl ?_
        refine f_if rfl (by decide) (fun c_9 => absurd (show (1 : Int) = (0 : Int) from c_9) (by decide)) (fun _ => ?_)
        refine f_il 0 rfl hL18 rfl ?_
        refine f_if rfl (by decide) (fun _ => ?_) (fun c_9 => absurd (show ¬ (1 : Int) = (0 : Int) from (by decide)) c_9)
        refine f_s [fi (0)] rfl rfl ?_
        exact f_ret2 rfl (Or.inl rfl) ⟨by rw [show cd8 m x k = (cdT m x k 8 && cd9 m x k) from rfl, show cdT m x k 8 = false by unfold cdT; rw [decide_eq_true c1, decide_eq_true c2, Bool.true_or]; rfl]; rfl, hw, hm⟩
  have hK7 : ∀ (hc : ev_H) (L : ev_L), y_in yGw hc → gi hc = m → f_L L [(4, fi (7)), (0, .ref 38), (1, .ref 3), (2, fi (x)), (3, fi (k))] → x_W none (2, 0, 7, 3, 3, 2, 43, 0, 0, ev_t156) 23 L [] hc 0 0 (fun r' h' => r' = some (fi (bI (cd7 m x k))) ∧ y_in yGw h' ∧ gi h' = m) := fun hc L hw hm hL => by
    refine f_il 0 rfl hL rfl ?_
    refine f_bipush (n := 10) rfl (by decide) ?_
    refine f_ic rfl (by decide) (by decide) (fun c_9 => absurd (show (10 : Int) ≤ (7 : Int) from c_9) (by decide)) (fun _ => ?_)
    refine f_aln 1 rfl hL rfl ?_
    refine m_gfr so38 rfl hw rfl (by decide) ?_
    refine f_iln 4 rfl hL rfl ?_
    refine m_ia sa40 (m 40 (k).toNat) rfl hw hm (by omega) (by omega) (by decide) rfl ?_
    refine f_il 0 rfl hL rfl ?_
    refine b_ishr rfl ?_
    refine f_s [fi (1), fi (iR (m 40 (k).toNat) (7))] rfl rfl ?_
    refine b_iand rfl ?_
    refine f_s [fi (1), fi (iA (iR (m 40 (k).toNat) (7)) (1))] rfl rfl ?_
    refine f_ic rfl iA_r (by decide) (fun c1 => ?_) (fun c1 => ?_)
    · have c1 : ¬ (iA (iR (m 40 (k).toNat) (7)) (1) : Int) = (1 : Int) := c1
      refine f_s [fi (0)] rfl rfl ?_
      refine f_ist [(5, fi (0)), (4, fi (7)), (0, .ref 38), (1, .ref 3), (2, fi (x)), (3, fi (k))] rfl (by decide) hL rfl (fun L19 hL19 => ?_)
      refine f_aln 2 rfl hL19 rfl ?_
      refine m_gfr so38 rfl hw rfl (by decide) ?_
      refine f_iln 4 rfl hL19 rfl ?_
      refine m_ia sa39 (m 39 (x).toNat) rfl hw hm (by omega) (by omega) (by decide) rfl ?_
      refine f_il 1 rfl hL19 rfl ?_
      refine b_ishr rfl ?_
      refine f_s [fi (1), fi (iR (m 39 (x).toNat) (7))] rfl rfl ?_
      refine b_iand rfl ?_
      refine f_s [fi (1), fi (iA (iR (m 39 (x).toNat) (7)) (1))] rfl rfl ?_
      refine f_ic rfl iA_r (by decide) (fun c2 => ?_) (fun c2 => ?_)
      · have c2 : ¬ (iA (iR (m 39 (x).toNat) (7)) (1) : Int) = (1 : Int) := c2
        refine f_s [fi (0)] rfl rfl ?_
        refine f_ist [(6, fi (0)), (5, fi (0)), (4, fi (7)), (0, .ref 38), (1, .ref 3), (2, fi (x)), (3, fi (k))] rfl (by decide) hL19 rfl (fun L20 hL20 => ?_)
        refine f_il 1 rfl hL20 rfl ?_
        refine f_if rfl (by decide) (fun _ => ?_) (fun c_9 => absurd (show (0 : Int) = (0 : Int) from (by decide)) c_9)
        refine f_inc 2 [(4, fi (8)), (6, fi (0)), (5, fi (0)), (0, .ref 38), (1, .ref 3), (2, fi (x)), (3, fi (k))] rfl (by decide) hL20 rfl rfl (fun L21 hL21 => ?_)
        refine f_goto rfl ?_
        rw [show cd7 m x k = (cdT m x k 7 && cd8 m x k) from rfl, show cdT m x k 7 = true by unfold cdT; rw [decide_eq_false c1, Bool.false_and]; rfl, Bool.true_and]
        exact hK8 hc _ hw hm (hL21.sel [0, 3, 4, 5, 6] rfl)
      · have c2 : ¬ (¬ (iA (iR (m 39 (x).toNat) (7)) (1) : Int) = (1 : Int)) := c2
        refine f_s [fi (1)] rfl rfl ?_
        refine f_goto rfl ?_
        refine f_ist [(6, fi (1)), (5, fi (0)), (4, fi (7)), (0, .ref 38), (1, .ref 3), (2, fi (x)), (3, fi (k))] rfl (by decide) hL19 rfl (fun L22 hL22 => ?_)
        refine f_il 1 rfl hL22 rfl ?_
        refine f_if rfl (by decide) (fun _ => ?_) (fun c_9 => absurd (show (0 : Int) = (0 : Int) from (by decide)) c_9)
        refine f_inc 2 [(4, fi (8)), (6, fi (1)), (5, fi (0)), (0, .ref 38), (1, .ref 3), (2, fi (x)), (3, fi (k))] rfl (by decide) hL22 rfl rfl (fun L23 hL23 => ?_)
        refine f_goto rfl ?_
        rw [show cd7 m x k = (cdT m x k 7 && cd8 m x k) from rfl, show cdT m x k 7 = true by unfold cdT; rw [decide_eq_false c1, Bool.false_and]; rfl, Bool.true_and]
        exact hK8 hc _ hw hm (hL23.sel [0, 3, 4, 5, 6] rfl)
    · have c1 : ¬ (¬ (iA (iR (m 40 (k).toNat) (7)) (1) : Int) = (1 : Int)) := c1
      have c1 : iA (iR (m 40 (k).toNat) (7)) (1) = 1 := by omega
      refine f_s [fi (1)] rfl rfl ?_
      refine f_goto rfl ?_
      refine f_ist [(5, fi (1)), (4, fi (7)), (0, .ref 38), (1, .ref 3), (2, fi (x)), (3, fi (k))] rfl (by decide) hL rfl (fun L24 hL24 => ?_)
      refine f_aln 2 rfl hL24 rfl ?_
      refine m_gfr so38 rfl hw rfl (by decide) ?_
      refine f_iln 4 rfl hL24 rfl ?_
      refine m_ia sa39 (m 39 (x).toNat) rfl hw hm (by omega) (by omega) (by decide) rfl ?_
      refine f_il 1 rfl hL24 rfl ?_
      refine b_ishr rfl ?_
      refine f_s [fi (1), fi (iR (m 39 (x).toNat) (7))] rfl rfl ?_
      refine b_iand rfl ?_
      refine f_s [fi (1), fi (iA (iR (m 39 (x).toNat) (7)) (1))] rfl rfl ?_
      refine f_ic rfl iA_r (by decide) (fun c2 => ?_) (fun c2 => ?_)
      · have c2 : ¬ (iA (iR (m 39 (x).toNat) (7)) (1) : Int) = (1 : Int) := c2
        refine f_s [fi (0)] rfl rfl ?_
        refine f_ist [(6, fi (0)), (5, fi (1)), (4, fi (7)), (0, .ref 38), (1, .ref 3), (2, fi (x)), (3, fi (k))] rfl (by decide) hL24 rfl (fun L25 hL25 => ?_)
        refine f_il 1 rfl hL25 rfl ?_
        refine f_if rfl (by decide) (fun c_9 => absurd (show (1 : Int) = (0 : Int) from c_9) (by decide)) (fun _ => ?_)
        refine f_il 0 rfl hL25 rfl ?_
        refine f_if rfl (by decide) (fun c_9 => absurd (show ¬ (0 : Int) = (0 : Int) from c_9) (by decide)) (fun _ => ?_)
        refine f_aln 4 rfl hL25 rfl ?_
        refine f_iln 5 rfl hL25 rfl ?_
        refine f_il 2 rfl hL25 rfl ?_
        refine m_k1 (t84 (h := 7) hp (by omega) (by decide)) hw hm rfl rfl rfl (m_ar so3 hw rfl) rfl (fun hc3 hw3 hm3 => ?_)
        refine f_if rfl (bI_r _) (fun c3 => ?_) (fun c3 => ?_)
        · have c3 : ¬ (bI (decide ((0 ≤ x ∧ x < m 3 6) ∧ m 6 (x).toNat ≤ 7 ∧ 7 ≤ m 7 (x).toNat)) : Int) = (0 : Int) := c3
          have c3 : (0 ≤ x ∧ x < m 3 6) ∧ m 6 (x).toNat ≤ 7 ∧ 7 ≤ m 7 (x).toNat := bI_t c3
          refine f_inc 2 [(4, fi (8)), (6, fi (0)), (5, fi (1)), (0, .ref 38), (1, .ref 3), (2, fi (x)), (3, fi (k))] rfl (by decide) hL25 rfl rfl (fun L26 hL26 => ?_)
          refine f_goto rfl ?_
          rw [show cd7 m x k = (cdT m x k 7 && cd8 m x k) from rfl, show cdT m x k 7 = true by unfold cdT; rw [decide_eq_true c1, decide_eq_false c2, decide_eq_true c3]; rfl, Bool.true_and]
          exact hK8 hc3 _ hw3 hm3 (hL26.sel [0, 3, 4, 5, 6] rfl)
        · have c3 : ¬ (¬ (bI (decide ((0 ≤ x ∧ x < m 3 6) ∧ m 6 (x).toNat ≤ 7 ∧ 7 ≤ m 7 (x).toNat)) : Int) = (0 : Int)) := c3
          have c3 : ¬ ((0 ≤ x ∧ x < m 3 6) ∧ m 6 (x).toNat ≤ 7 ∧ 7 ≤ m 7 (x).toNat) := bI_n c3
          refine f_s [fi (0)] rfl rfl ?_
          exact f_ret2 rfl (Or.inl rfl) ⟨by rw [show cd7 m x k = (cdT m x k 7 && cd8 m x k) from rfl, show cdT m x k 7 = false by unfold cdT; rw [decide_eq_true c1, decide_eq_false c2, decide_eq_false c3]; rfl]; rfl, hw3, hm3⟩
      · have c2 : ¬ (¬ (iA (iR (m 39 (x).toNat) (7)) (1) : Int) = (1 : Int)) := c2
        have c2 : iA (iR (m 39 (x).toNat) (7)) (1) = 1 := by omega
        refine f_s [fi (1)] rfl rfl ?_
        refine f_goto rfl ?_
        refine f_ist [(6, fi (1)), (5, fi (1)), (4, fi (7)), (0, .ref 38), (1, .ref 3), (2, fi (x)), (3, fi (k))] rfl (by decide) hL24 rfl (fun L27 hL27 => ?_)
        refine f_il 1 rfl hL27 rfl ?_
        refine f_if rfl (by decide) (fun c_9 => absurd (show (1 : Int) = (0 : Int) from c_9) (by decide)) (fun _ => ?_)
        refine f_il 0 rfl hL27 rfl ?_
        refine f_if rfl (by decide) (fun _ => ?_) (fun c_9 => absurd (show ¬ (1 : Int) = (0 : Int) from (by decide)) c_9)
        refine f_s [fi (0)] rfl rfl ?_
        exact f_ret2 rfl (Or.inl rfl) ⟨by rw [show cd7 m x k = (cdT m x k 7 && cd8 m x k) from rfl, show cdT m x k 7 = false by unfold cdT; rw [decide_eq_true c1, decide_eq_true c2, Bool.true_or]; rfl]; rfl, hw, hm⟩
  have hK6 : ∀ (hc : ev_H) (L : ev_L), y_in yGw hc → gi hc = m → f_L L [(4, fi (6)), (0, .ref 38), (1, .ref 3), (2, fi (x)), (3, fi (k))] → x_W none (2, 0, 7, 3, 3, 2, 43, 0, 0, ev_t156) 23 L [] hc 0 0 (fun r' h' => r' = some (fi (bI (cd6 m x k))) ∧ y_in yGw h' ∧ gi h' = m) := fun hc L hw hm hL => by
    refine f_il 0 rfl hL rfl ?_
    refine f_bipush (n := 10) rfl (by decide) ?_
    refine f_ic rfl (by decide) (by decide) (fun c_9 => absurd (show (10 : Int) ≤ (6 : Int) from c_9) (by decide)) (fun _ => ?_)
    refine f_aln 1 rfl hL rfl ?_
    refine m_gfr so38 rfl hw rfl (by decide) ?_
    refine f_iln 4 rfl hL rfl ?_
    refine m_ia sa40 (m 40 (k).toNat) rfl hw hm (by omega) (by omega) (by decide) rfl ?_
    refine f_il 0 rfl hL rfl ?_
    refine b_ishr rfl ?_
    refine f_s [fi (1), fi (iR (m 40 (k).toNat) (6))] rfl rfl ?_
    refine b_iand rfl ?_
    refine f_s [fi (1), fi (iA (iR (m 40 (k).toNat) (6)) (1))] rfl rfl ?_
    refine f_ic rfl iA_r (by decide) (fun c1 => ?_) (fun c1 => ?_)
    · have c1 : ¬ (iA (iR (m 40 (k).toNat) (6)) (1) : Int) = (1 : Int) := c1
      refine f_s [fi (0)] rfl rfl ?_
      refine f_ist [(5, fi (0)), (4, fi (6)), (0, .ref 38), (1, .ref 3), (2, fi (x)), (3, fi (k))] rfl (by decide) hL rfl (fun L28 hL28 => ?_)
      refine f_aln 2 rfl hL28 rfl ?_
      refine m_gfr so38 rfl hw rfl (by decide) ?_
      refine f_iln 4 rfl hL28 rfl ?_
      refine m_ia sa39 (m 39 (x).toNat) rfl hw hm (by omega) (by omega) (by decide) rfl ?_
      refine f_il 1 rfl hL28 rfl ?_
      refine b_ishr rfl ?_
      refine f_s [fi (1), fi (iR (m 39 (x).toNat) (6))] rfl rfl ?_
      refine b_iand rfl ?_
      refine f_s [fi (1), fi (iA (iR (m 39 (x).toNat) (6)) (1))] rfl rfl ?_
      refine f_ic rfl iA_r (by decide) (fun c2 => ?_) (fun c2 => ?_)
      · have c2 : ¬ (iA (iR (m 39 (x).toNat) (6)) (1) : Int) = (1 : Int) := c2
        refine f_s [fi (0)] rfl rfl ?_
        refine f_ist [(6, fi (0)), (5, fi (0)), (4, fi (6)), (0, .ref 38), (1, .ref 3), (2, fi (x)), (3, fi (k))] rfl (by decide) hL28 rfl (fun L29 hL29 => ?_)
        refine f_il 1 rfl hL29 rfl ?_
        refine f_if rfl (by decide) (fun _ => ?_) (fun c_9 => absurd (show (0 : Int) = (0 : Int) from (by decide)) c_9)
        refine f_inc 2 [(4, fi (7)), (6, fi (0)), (5, fi (0)), (0, .ref 38), (1, .ref 3), (2, fi (x)), (3, fi (k))] rfl (by decide) hL29 rfl rfl (fun L30 hL30 => ?_)
        refine f_goto rfl ?_
        rw [show cd6 m x k = (cdT m x k 6 && cd7 m x k) from rfl, show cdT m x k 6 = true by unfold cdT; rw [decide_eq_false c1, Bool.false_and]; rfl, Bool.true_and]
        exact hK7 hc _ hw hm (hL30.sel [0, 3, 4, 5, 6] rfl)
      · have c2 : ¬ (¬ (iA (iR (m 39 (x).toNat) (6)) (1) : Int) = (1 : Int)) := c2
        refine f_s [fi (1)] rfl rfl ?_
        refine f_goto rfl ?_
        refine f_ist [(6, fi (1)), (5, fi (0)), (4, fi (6)), (0, .ref 38), (1, .ref 3), (2, fi (x)), (3, fi (k))] rfl (by decide) hL28 rfl (fun L31 hL31 => ?_)
        refine f_il 1 rfl hL31 rfl ?_
        refine f_if rfl (by decide) (fun _ => ?_) (fun c_9 => absurd (show (0 : Int) = (0 : Int) from (by decide)) c_9)
        refine f_inc 2 [(4, fi (7)), (6, fi (1)), (5, fi (0)), (0, .ref 38), (1, .ref 3), (2, fi (x)), (3, fi (k))] rfl (by decide) hL31 rfl rfl (fun L32 hL32 => ?_)
        refine f_goto rfl ?_
        rw [show cd6 m x k = (cdT m x k 6 && cd7 m x k) from rfl, show cdT m x k 6 = true by unfold cdT; rw [decide_eq_false c1, Bool.false_and]; rfl, Bool.true_and]
        exact hK7 hc _ hw hm (hL32.sel [0, 3, 4, 5, 6] rfl)
    · have c1 : ¬ (¬ (iA (iR (m 40 (k).toNat) (6)) (1) : Int) = (1 : Int)) := c1
      have c1 : iA (iR (m 40 (k).toNat) (6)) (1) = 1 := by omega
      refine f_s [fi (1)] rfl rfl ?_
      refine f_goto rfl ?_
      refine f_ist [(5, fi (1)), (4, fi (6)), (0, .ref 38), (1, .ref 3), (2, fi (x)), (3, fi (k))] rfl (by decide) hL rfl (fun L33 hL33 => ?_)
      refine f_aln 2 rfl hL33 rfl ?_
      refine m_gfr so38 rfl hw rfl (by decide) ?_
      refine f_iln 4 rfl hL33 rfl ?_
      refine m_ia sa39 (m 39 (x).toNat) rfl hw hm (by omega) (by omega) (by decide) rfl ?_
      refine f_il 1 rfl hL33 rfl ?_
      refine b_ishr rfl ?_
      refine f_s [fi (1), fi (iR (m 39 (x).toNat) (6))] rfl rfl ?_
      refine b_iand rfl ?_
      refine f_s [fi (1), fi (iA (iR (m 39 (x).toNat) (6)) (1))] rfl rfl ?_
      refine f_ic rfl iA_r (by decide) (fun c2 => ?_) (fun c2 => ?_)
      · have c2 : ¬ (iA (iR (m 39 (x).toNat) (6)) (1) : Int) = (1 : Int) := c2
        refine f_s [fi (0)] rfl rfl ?_
        refine f_ist [(6, fi (0)), (5, fi (1)), (4, fi (6)), (0, .ref 38), (1, .ref 3), (2, fi (x)), (3, fi (k))] rfl (by decide) hL33 rfl (fun L34 hL34 => ?_)
        refine f_il 1 rfl hL34 rfl ?_
        refine f_if rfl (by decide) (fun c_9 => absurd (show (1 : Int) = (0 : Int) from c_9) (by decide)) (fun _ => ?_)
        refine f_il 0 rfl hL34 rfl ?_
        refine f_if rfl (by decide) (fun c_9 => absurd (show ¬ (0 : Int) = (0 : Int) from c_9) (by decide)) (fun _ => ?_)
        refine f_aln 4 rfl hL34 rfl ?_
        refine f_iln 5 rfl hL34 rfl ?_
        refine f_il 2 rfl hL34 rfl ?_
        refine m_k1 (t84 (h := 6) hp (by omega) (by decide)) hw hm rfl rfl rfl (m_ar so3 hw rfl) rfl (fun hc4 hw4 hm4 => ?_)
        refine f_if rfl (bI_r _) (fun c3 => ?_) (fun c3 => ?_)
        · have c3 : ¬ (bI (decide ((0 ≤ x ∧ x < m 3 6) ∧ m 6 (x).toNat ≤ 6 ∧ 6 ≤ m 7 (x).toNat)) : Int) = (0 : Int) := c3
          have c3 : (0 ≤ x ∧ x < m 3 6) ∧ m 6 (x).toNat ≤ 6 ∧ 6 ≤ m 7 (x).toNat := bI_t c3
          refine f_inc 2 [(4, fi (7)), (6, fi (0)), (5, fi (1)), (0, .ref 38), (1, .ref 3), (2, fi (x)), (3, fi (k))] rfl (by decide) hL34 rfl rfl (fun L35 hL35 => ?_)
          refine f_goto rfl ?_
          rw [show cd6 m x k = (cdT m x k 6 && cd7 m x k) from rfl, show cdT m x k 6 = true by unfold cdT; rw [decide_eq_true c1, decide_eq_false c2, decide_eq_true c3]; rfl, Bool.true_and]
          exact hK7 hc4 _ hw4 hm4 (hL35.sel [0, 3, 4, 5, 6] rfl)
        · have c3 : ¬ (¬ (bI (decide ((0 ≤ x ∧ x < m 3 6) ∧ m 6 (x).toNat ≤ 6 ∧ 6 ≤ m 7 (x).toNat)) : Int) = (0 : Int)) := c3
          have c3 : ¬ ((0 ≤ x ∧ x < m 3 6) ∧ m 6 (x).toNat ≤ 6 ∧ 6 ≤ m 7 (x).toNat) := bI_n c3
          refine f_s [fi (0)] rfl rfl ?_
          exact f_ret2 rfl (Or.inl rfl) ⟨by rw [show cd6 m x k = (cdT m x k 6 && cd7 m x k) from rfl, show cdT m x k 6 = false by unfold cdT; rw [decide_eq_true c1, decide_eq_false c2, decide_eq_false c3]; rfl]; rfl, hw4, hm4⟩
      · have c2 : ¬ (¬ (iA (iR (m 39 (x).toNat) (6)) (1) : Int) = (1 : Int)) := c2
        have c2 : iA (iR (m 39 (x).toNat) (6)) (1) = 1 := by omega
        refine f_s [fi (1)] rfl rfl ?_
        refine f_goto rfl ?_
        refine f_ist [(6, fi (1)), (5, fi (1)), (4, fi (6)), (0, .ref 38), (1, .ref 3), (2, fi (x)), (3, fi (k))] rfl (by decide) hL33 rfl (fun L36 hL36 => ?_)
        refine f_il 1 rfl hL36 rfl ?_
        refine f_if rfl (by decide) (fun c_9 => absurd (show (1 : Int) = (0 : Int) from c_9) (by decide)) (fun _ => ?_)
        refine f_il 0 rfl hL36 rfl ?_
        refine f_if rfl (by decide) (fun _ => ?_) (fun c_9 => absurd (show ¬ (1 : Int) = (0 : Int) from (by decide)) c_9)
        refine f_s [fi (0)] rfl rfl ?_
        exact f_ret2 rfl (Or.inl rfl) ⟨by rw [show cd6 m x k = (cdT m x k 6 && cd7 m x k) from rfl, show cdT m x k 6 = false by unfold cdT; rw [decide_eq_true c1, decide_eq_true c2, Bool.true_or]; rfl]; rfl, hw, hm⟩
  have hK5 : ∀ (hc : ev_H) (L : ev_L), y_in yGw hc → gi hc = m → f_L L [(4, fi (5)), (0, .ref 38), (1, .ref 3), (2, fi (x)), (3, fi (k))] → x_W none (2, 0, 7, 3, 3, 2, 43, 0, 0, ev_t156) 23 L [] hc 0 0 (fun r' h' => r' = some (fi (bI (cd5 m x k))) ∧ y_in yGw h' ∧ gi h' = m) := fun hc L hw hm hL => by
    refine f_il 0 rfl hL rfl ?_
    refine f_bipush (n := 10) rfl (by decide) ?_
    refine f_ic rfl (by decide) (by decide) (fun c_9 => absurd (show (10 : Int) ≤ (5 : Int) from c_9) (by decide)) (fun _ => ?_)
    refine f_aln 1 rfl hL rfl ?_
    refine m_gfr so38 rfl hw rfl (by decide) ?_
    refine f_iln 4 rfl hL rfl ?_
    refine m_ia sa40 (m 40 (k).toNat) rfl hw hm (by omega) (by omega) (by decide) rfl ?_
    refine f_il 0 rfl hL rfl ?_
    refine b_ishr rfl ?_
    refine f_s [fi (1), fi (iR (m 40 (k).toNat) (5))] rfl rfl ?_
    refine b_iand rfl ?_
    refine f_s [fi (1), fi (iA (iR (m 40 (k).toNat) (5)) (1))] rfl rfl ?_
    refine f_ic rfl iA_r (by decide) (fun c1 => ?_) (fun c1 => ?_)
    · have c1 : ¬ (iA (iR (m 40 (k).toNat) (5)) (1) : Int) = (1 : Int) := c1
      refine f_s [fi (0)] rfl rfl ?_
      refine f_ist [(5, fi (0)), (4, fi (5)), (0, .ref 38), (1, .ref 3), (2, fi (x)), (3, fi (k))] rfl (by decide) hL rfl (fun L37 hL37 => ?_)
      refine f_aln 2 rfl hL37 rfl ?_
      refine m_gfr so38 rfl hw rfl (by decide) ?_
      refine f_iln 4 rfl hL37 rfl ?_
      refine m_ia sa39 (m 39 (x).toNat) rfl hw hm (by omega) (by omega) (by decide) rfl ?_
      refine f_il 1 rfl hL37 rfl ?_
      refine b_ishr rfl ?_
      refine f_s [fi (1), fi (iR (m 39 (x).toNat) (5))] rfl rfl ?_
      refine b_iand rfl ?_
      refine f_s [fi (1), fi (iA (iR (m 39 (x).toNat) (5)) (1))] rfl rfl ?_
      refine f_ic rfl iA_r (by decide) (fun c2 => ?_) (fun c2 => ?_)
      · have c2 : ¬ (iA (iR (m 39 (x).toNat) (5)) (1) : Int) = (1 : Int) := c2
        refine f_s [fi (0)] rfl rfl ?_
        refine f_ist [(6, fi (0)), (5, fi (0)), (4, fi (5)), (0, .ref 38), (1, .ref 3), (2, fi (x)), (3, fi (k))] rfl (by decide) hL37 rfl (fun L38 hL38 => ?_)
        refine f_il 1 rfl hL38 rfl ?_
        refine f_if rfl (by decide) (fun _ => ?_) (fun c_9 => absurd (show (0 : Int) = (0 : Int) from (by decide)) c_9)
        refine f_inc 2 [(4, fi (6)), (6, fi (0)), (5, fi (0)), (0, .ref 38), (1, .ref 3), (2, fi (x)), (3, fi (k))] rfl (by decide) hL38 rfl rfl (fun L39 hL39 => ?_)
        refine f_goto rfl ?_
        rw [show cd5 m x k = (cdT m x k 5 && cd6 m x k) from rfl, show cdT m x k 5 = true by unfold cdT; rw [decide_eq_false c1, Bool.false_and]; rfl, Bool.true_and]
        exact hK6 hc _ hw hm (hL39.sel [0, 3, 4, 5, 6] rfl)
      · have c2 : ¬ (¬ (iA (iR (m 39 (x).toNat) (5)) (1) : Int) = (1 : Int)) := c2
        refine f_s [fi (1)] rfl rfl ?_
        refine f_goto rfl ?_
        refine f_ist [(6, fi (1)), (5, fi (0)), (4, fi (5)), (0, .ref 38), (1, .ref 3), (2, fi (x)), (3, fi (k))] rfl (by decide) hL37 rfl (fun L40 hL40 => ?_)
        refine f_il 1 rfl hL40 rfl ?_
        refine f_if rfl (by decide) (fun _ => ?_) (fun c_9 => absurd (show (0 : Int) = (0 : Int) from (by decide)) c_9)
        refine f_inc 2 [(4, fi (6)), (6, fi (1)), (5, fi (0)), (0, .ref 38), (1, .ref 3), (2, fi (x)), (3, fi (k))] rfl (by decide) hL40 rfl rfl (fun L41 hL41 => ?_)
        refine f_goto rfl ?_
        rw [show cd5 m x k = (cdT m x k 5 && cd6 m x k) from rfl, show cdT m x k 5 = true by unfold cdT; rw [decide_eq_false c1, Bool.false_and]; rfl, Bool.true_and]
        exact hK6 hc _ hw hm (hL41.sel [0, 3, 4, 5, 6] rfl)
    · have c1 : ¬ (¬ (iA (iR (m 40 (k).toNat) (5)) (1) : Int) = (1 : Int)) := c1
      have c1 : iA (iR (m 40 (k).toNat) (5)) (1) = 1 := by omega
      refine f_s [fi (1)] rfl rfl ?_
      refine f_goto rfl ?_
      refine f_ist [(5, fi (1)), (4, fi (5)), (0, .ref 38), (1, .ref 3), (2, fi (x)), (3, fi (k))] rfl (by decide) hL rfl (fun L42 hL42 => ?_)
      refine f_aln 2 rfl hL42 rfl ?_
      refine m_gfr so38 rfl hw rfl (by decide) ?_
      refine f_iln 4 rfl hL42 rfl ?_
      refine m_ia sa39 (m 39 (x).toNat) rfl hw hm (by omega) (by omega) (by decide) rfl ?_
      refine f_il 1 rfl hL42 rfl ?_
      refine b_ishr rfl ?_
      refine f_s [fi (1), fi (iR (m 39 (x).toNat) (5))] rfl rfl ?_
      refine b_iand rfl ?_
      refine f_s [fi (1), fi (iA (iR (m 39 (x).toNat) (5)) (1))] rfl rfl ?_
      refine f_ic rfl iA_r (by decide) (fun c2 => ?_) (fun c2 => ?_)
      · have c2 : ¬ (iA (iR (m 39 (x).toNat) (5)) (1) : Int) = (1 : Int) := c2
        refine f_s [fi (0)] rfl rfl ?_
        refine f_ist [(6, fi (0)), (5, fi (1)), (4, fi (5)), (0, .ref 38), (1, .ref 3), (2, fi (x)), (3, fi (k))] rfl (by decide) hL42 rfl (fun L43 hL43 => ?_)
        refine f_il 1 rfl hL43 rfl ?_
        refine f_if rfl (by decide) (fun c_9 => absurd (show (1 : Int) = (0 : Int) from c_9) (by decide)) (fun _ => ?_)
        refine f_il 0 rfl hL43 rfl ?_
        refine f_if rfl (by decide) (fun c_9 => absurd (show ¬ (0 : Int) = (0 : Int) from c_9) (by decide)) (fun _ => ?_)
        refine f_aln 4 rfl hL43 rfl ?_
        refine f_iln 5 rfl hL43 rfl ?_
        refine f_il 2 rfl hL43 rfl ?_
        refine m_k1 (t84 (h := 5) hp (by omega) (by decide)) hw hm rfl rfl rfl (m_ar so3 hw rfl) rfl (fun hc5 hw5 hm5 => ?_)
        refine f_if rfl (bI_r _) (fun c3 => ?_) (fun c3 => ?_)
        · have c3 : ¬ (bI (decide ((0 ≤ x ∧ x < m 3 6) ∧ m 6 (x).toNat ≤ 5 ∧ 5 ≤ m 7 (x).toNat)) : Int) = (0 : Int) := c3
          have c3 : (0 ≤ x ∧ x < m 3 6) ∧ m 6 (x).toNat ≤ 5 ∧ 5 ≤ m 7 (x).toNat := bI_t c3
          refine f_inc 2 [(4, fi (6)), (6, fi (0)), (5, fi (1)), (0, .ref 38), (1, .ref 3), (2, fi (x)), (3, fi (k))] rfl (by decide) hL43 rfl rfl (fun L44 hL44 => ?_)
          refine f_goto rfl ?_
          rw [show cd5 m x k = (cdT m x k 5 && cd6 m x k) from rfl, show cdT m x k 5 = true by unfold cdT; rw [decide_eq_true c1, decide_eq_false c2, decide_eq_true c3]; rfl, Bool.true_and]
          exact hK6 hc5 _ hw5 hm5 (hL44.sel [0, 3, 4, 5, 6] rfl)
        · have c3 : ¬ (¬ (bI (decide ((0 ≤ x ∧ x < m 3 6) ∧ m 6 (x).toNat ≤ 5 ∧ 5 ≤ m 7 (x).toNat)) : Int) = (0 : Int)) := c3
          have c3 : ¬ ((0 ≤ x ∧ x < m 3 6) ∧ m 6 (x).toNat ≤ 5 ∧ 5 ≤ m 7 (x).toNat) := bI_n c3
          refine f_s [fi (0)] rfl rfl ?_
          exact f_ret2 rfl (Or.inl rfl) ⟨by rw [show cd5 m x k = (cdT m x k 5 && cd6 m x k) from rfl, show cdT m x k 5 = false by unfold cdT; rw [decide_eq_true c1, decide_eq_false c2, decide_eq_false c3]; rfl]; rfl, hw5, hm5⟩
      · have c2 : ¬ (¬ (iA (iR (m 39 (x).toNat) (5)) (1) : Int) = (1 : Int)) := c2
        have c2 : iA (iR (m 39 (x).toNat) (5)) (1) = 1 := by omega
        refine f_s [fi (1)] rfl rfl ?_
        refine f_goto rfl ?_
        refine f_ist [(6, fi (1)), (5, fi (1)), (4, fi (5)), (0, .ref 38), (1, .ref 3), (2, fi (x)), (3, fi (k))] rfl (by decide) hL42 rfl (fun L45 hL45 => ?_)
        refine f_il 1 rfl hL45 rfl ?_
        refine f_if rfl (by decide) (fun c_9 => absurd (show (1 : Int) = (0 : Int) from c_9) (by decide)) (fun _ => ?_)
        refine f_il 0 rfl hL45 rfl ?_
        refine f_if rfl (by decide) (fun _ => ?_) (fun c_9 => absurd (show ¬ (1 : Int) = (0 : Int) from (by decide)) c_9)
        refine f_s [fi (0)] rfl rfl ?_
        exact f_ret2 rfl (Or.inl rfl) ⟨by rw [show cd5 m x k = (cdT m x k 5 && cd6 m x k) from rfl, show cdT m x k 5 = false by unfold cdT; rw [decide_eq_true c1, decide_eq_true c2, Bool.true_or]; rfl]; rfl, hw, hm⟩
  have hK4 : ∀ (hc : ev_H) (L : ev_L), y_in yGw hc → gi hc = m → f_L L [(4, fi (4)), (0, .ref 38), (1, .ref 3), (2, fi (x)), (3, fi (k))] → x_W none (2, 0, 7, 3, 3, 2, 43, 0, 0, ev_t156) 23 L [] hc 0 0 (fun r' h' => r' = some (fi (bI (cd4 m x k))) ∧ y_in yGw h' ∧ gi h' = m) := fun hc L hw hm hL => by
    refine f_il 0 rfl hL rfl ?_
    refine f_bipush (n := 10) rfl (by decide) ?_
    refine f_ic rfl (by decide) (by decide) (fun c_9 => absurd (show (10 : Int) ≤ (4 : Int) from c_9) (by decide)) (fun _ => ?_)
    refine f_aln 1 rfl hL rfl ?_
    refine m_gfr so38 rfl hw rfl (by decide) ?_
    refine f_iln 4 rfl hL rfl ?_
    refine m_ia sa40 (m 40 (k).toNat) rfl hw hm (by omega) (by omega) (by decide) rfl ?_
    refine f_il 0 rfl hL rfl ?_
    refine b_ishr rfl ?_
    refine f_s [fi (1), fi (iR (m 40 (k).toNat) (4))] rfl rfl ?_
    refine b_iand rfl ?_
    refine f_s [fi (1), fi (iA (iR (m 40 (k).toNat) (4)) (1))] rfl rfl ?_
    refine f_ic rfl iA_r (by decide) (fun c1 => ?_) (fun c1 => ?_)
    · have c1 : ¬ (iA (iR (m 40 (k).toNat) (4)) (1) : Int) = (1 : Int) := c1
      refine f_s [fi (0)] rfl rfl ?_
      refine f_ist [(5, fi (0)), (4, fi (4)), (0, .ref 38), (1, .ref 3), (2, fi (x)), (3, fi (k))] rfl (by decide) hL rfl (fun L46 hL46 => ?_)
      refine f_aln 2 rfl hL46 rfl ?_
      refine m_gfr so38 rfl hw rfl (by decide) ?_
      refine f_iln 4 rfl hL46 rfl ?_
      refine m_ia sa39 (m 39 (x).toNat) rfl hw hm (by omega) (by omega) (by decide) rfl ?_
      refine f_il 1 rfl hL46 rfl ?_
      refine b_ishr rfl ?_
      refine f_s [fi (1), fi (iR (m 39 (x).toNat) (4))] rfl rfl ?_
      refine b_iand rfl ?_
      refine f_s [fi (1), fi (iA (iR (m 39 (x).toNat) (4)) (1))] rfl rfl ?_
      refine f_ic rfl iA_r (by decide) (fun c2 => ?_) (fun c2 => ?_)
      · have c2 : ¬ (iA (iR (m 39 (x).toNat) (4)) (1) : Int) = (1 : Int) := c2
        refine f_s [fi (0)] rfl rfl ?_
        refine f_ist [(6, fi (0)), (5, fi (0)), (4, fi (4)), (0, .ref 38), (1, .ref 3), (2, fi (x)), (3, fi (k))] rfl (by decide) hL46 rfl (fun L47 hL47 => ?_)
        refine f_il 1 rfl hL47 rfl ?_
        refine f_if rfl (by decide) (fun _ => ?_) (fun c_9 => absurd (show (0 : Int) = (0 : Int) from (by decide)) c_9)
        refine f_inc 2 [(4, fi (5)), (6, fi (0)), (5, fi (0)), (0, .ref 38), (1, .ref 3), (2, fi (x)), (3, fi (k))] rfl (by decide) hL47 rfl rfl (fun L48 hL48 => ?_)
        refine f_goto rfl ?_
        rw [show cd4 m x k = (cdT m x k 4 && cd5 m x k) from rfl, show cdT m x k 4 = true by unfold cdT; rw [decide_eq_false c1, Bool.false_and]; rfl, Bool.true_and]
        exact hK5 hc _ hw hm (hL48.sel [0, 3, 4, 5, 6] rfl)
      · have c2 : ¬ (¬ (iA (iR (m 39 (x).toNat) (4)) (1) : Int) = (1 : Int)) := c2
        refine f_s [fi (1)] rfl rfl ?_
        refine f_goto rfl ?_
        refine f_ist [(6, fi (1)), (5, fi (0)), (4, fi (4)), (0, .ref 38), (1, .ref 3), (2, fi (x)), (3, fi (k))] rfl (by decide) hL46 rfl (fun L49 hL49 => ?_)
        refine f_il 1 rfl hL49 rfl ?_
        refine f_if rfl (by decide) (fun _ => ?_) (fun c_9 => absurd (show (0 : Int) = (0 : Int) from (by decide)) c_9)
        refine f_inc 2 [(4, fi (5)), (6, fi (1)), (5, fi (0)), (0, .ref 38), (1, .ref 3), (2, fi (x)), (3, fi (k))] rfl (by decide) hL49 rfl rfl (fun L50 hL50 => ?_)
        refine f_goto rfl ?_
        rw [show cd4 m x k = (cdT m x k 4 && cd5 m x k) from rfl, show cdT m x k 4 = true by unfold cdT; rw [decide_eq_false c1, Bool.false_and]; rfl, Bool.true_and]
        exact hK5 hc _ hw hm (hL50.sel [0, 3, 4, 5, 6] rfl)
    · have c1 : ¬ (¬ (iA (iR (m 40 (k).toNat) (4)) (1) : Int) = (1 : Int)) := c1
      have c1 : iA (iR (m 40 (k).toNat) (4)) (1) = 1 := by omega
      refine f_s [fi (1)] rfl rfl ?_
      refine f_goto rfl ?_
      refine f_ist [(5, fi (1)), (4, fi (4)), (0, .ref 38), (1, .ref 3), (2, fi (x)), (3, fi (k))] rfl (by decide) hL rfl (fun L51 hL51 => ?_)
      refine f_aln 2 rfl hL51 rfl ?_
      refine m_gfr so38 rfl hw rfl (by decide) ?_
      refine f_iln 4 rfl hL51 rfl ?_
      refine m_ia sa39 (m 39 (x).toNat) rfl hw hm (by omega) (by omega) (by decide) rfl ?_
      refine f_il 1 rfl hL51 rfl ?_
      refine b_ishr rfl ?_
      refine f_s [fi (1), fi (iR (m 39 (x).toNat) (4))] rfl rfl ?_
      refine b_iand rfl ?_
      refine f_s [fi (1), fi (iA (iR (m 39 (x).toNat) (4)) (1))] rfl rfl ?_
      refine f_ic rfl iA_r (by decide) (fun c2 => ?_) (fun c2 => ?_)
      · have c2 : ¬ (iA (iR (m 39 (x).toNat) (4)) (1) : Int) = (1 : Int) := c2
        refine f_s [fi (0)] rfl rfl ?_
        refine f_ist [(6, fi (0)), (5, fi (1)), (4, fi (4)), (0, .ref 38), (1, .ref 3), (2, fi (x)), (3, fi (k))] rfl (by decide) hL51 rfl (fun L52 hL52 => ?_)
        refine f_il 1 rfl hL52 rfl ?_
        refine f_if rfl (by decide) (fun c_9 => absurd (show (1 : Int) = (0 : Int) from c_9) (by decide)) (fun _ => ?_)
        refine f_il 0 rfl hL52 rfl ?_
        refine f_if rfl (by decide) (fun c_9 => absurd (show ¬ (0 : Int) = (0 : Int) from c_9) (by decide)) (fun _ => ?_)
        refine f_aln 4 rfl hL52 rfl ?_
        refine f_iln 5 rfl hL52 rfl ?_
        refine f_il 2 rfl hL52 rfl ?_
        refine m_k1 (t84 (h := 4) hp (by omega) (by decide)) hw hm rfl rfl rfl (m_ar so3 hw rfl) rfl (fun hc6 hw6 hm6 => ?_)
        refine f_if rfl (bI_r _) (fun c3 => ?_) (fun c3 => ?_)
        · have c3 : ¬ (bI (decide ((0 ≤ x ∧ x < m 3 6) ∧ m 6 (x).toNat ≤ 4 ∧ 4 ≤ m 7 (x).toNat)) : Int) = (0 : Int) := c3
          have c3 : (0 ≤ x ∧ x < m 3 6) ∧ m 6 (x).toNat ≤ 4 ∧ 4 ≤ m 7 (x).toNat := bI_t c3
          refine f_inc 2 [(4, fi (5)), (6, fi (0)), (5, fi (1)), (0, .ref 38), (1, .ref 3), (2, fi (x)), (3, fi (k))] rfl (by decide) hL52 rfl rfl (fun L53 hL53 => ?_)
          refine f_goto rfl ?_
          rw [show cd4 m x k = (cdT m x k 4 && cd5 m x k) from rfl, show cdT m x k 4 = true by unfold cdT; rw [decide_eq_true c1, decide_eq_false c2, decide_eq_true c3]; rfl, Bool.true_and]
          exact hK5 hc6 _ hw6 hm6 (hL53.sel [0, 3, 4, 5, 6] rfl)
        · have c3 : ¬ (¬ (bI (decide ((0 ≤ x ∧ x < m 3 6) ∧ m 6 (x).toNat ≤ 4 ∧ 4 ≤ m 7 (x).toNat)) : Int) = (0 : Int)) := c3
          have c3 : ¬ ((0 ≤ x ∧ x < m 3 6) ∧ m 6 (x).toNat ≤ 4 ∧ 4 ≤ m 7 (x).toNat) := bI_n c3
          refine f_s [fi (0)] rfl rfl ?_
          exact f_ret2 rfl (Or.inl rfl) ⟨by rw [show cd4 m x k = (cdT m x k 4 && cd5 m x k) from rfl, show cdT m x k 4 = false by unfold cdT; rw [decide_eq_true c1, decide_eq_false c2, decide_eq_false c3]; rfl]; rfl, hw6, hm6⟩
      · have c2 : ¬ (¬ (iA (iR (m 39 (x).toNat) (4)) (1) : Int) = (1 : Int)) := c2
        have c2 : iA (iR (m 39 (x).toNat) (4)) (1) = 1 := by omega
        refine f_s [fi (1)] rfl rfl ?_
        refine f_goto rfl ?_
        refine f_ist [(6, fi (1)), (5, fi (1)), (4, fi (4)), (0, .ref 38), (1, .ref 3), (2, fi (x)), (3, fi (k))] rfl (by decide) hL51 rfl (fun L54 hL54 => ?_)
        refine f_il 1 rfl hL54 rfl ?_
        refine f_if rfl (by decide) (fun c_9 => absurd (show (1 : Int) = (0 : Int) from c_9) (by decide)) (fun _ => ?_)
        refine f_il 0 rfl hL54 rfl ?_
        refine f_if rfl (by decide) (fun _ => ?_) (fun c_9 => absurd (show ¬ (1 : Int) = (0 : Int) from (by decide)) c_9)
        refine f_s [fi (0)] rfl rfl ?_
        exact f_ret2 rfl (Or.inl rfl) ⟨by rw [show cd4 m x k = (cdT m x k 4 && cd5 m x k) from rfl, show cdT m x k 4 = false by unfold cdT; rw [decide_eq_true c1, decide_eq_true c2, Bool.true_or]; rfl]; rfl, hw, hm⟩
  have hK3 : ∀ (hc : ev_H) (L : ev_L), y_in yGw hc → gi hc = m → f_L L [(4, fi (3)), (0, .ref 38), (1, .ref 3), (2, fi (x)), (3, fi (k))] → x_W none (2, 0, 7, 3, 3, 2, 43, 0, 0, ev_t156) 23 L [] hc 0 0 (fun r' h' => r' = some (fi (bI (cd3 m x k))) ∧ y_in yGw h' ∧ gi h' = m) := fun hc L hw hm hL => by
    refine f_il 0 rfl hL rfl ?_
    refine f_bipush (n := 10) rfl (by decide) ?_
    refine f_ic rfl (by decide) (by decide) (fun c_9 => absurd (show (10 : Int) ≤ (3 : Int) from c_9) (by decide)) (fun _ => ?_)
    refine f_aln 1 rfl hL rfl ?_
    refine m_gfr so38 rfl hw rfl (by decide) ?_
    refine f_iln 4 rfl hL rfl ?_
    refine m_ia sa40 (m 40 (k).toNat) rfl hw hm (by omega) (by omega) (by decide) rfl ?_
    refine f_il 0 rfl hL rfl ?_
    refine b_ishr rfl ?_
    refine f_s [fi (1), fi (iR (m 40 (k).toNat) (3))] rfl rfl ?_
    refine b_iand rfl ?_
    refine f_s [fi (1), fi (iA (iR (m 40 (k).toNat) (3)) (1))] rfl rfl ?_
    refine f_ic rfl iA_r (by decide) (fun c1 => ?_) (fun c1 => ?_)
    · have c1 : ¬ (iA (iR (m 40 (k).toNat) (3)) (1) : Int) = (1 : Int) := c1
      refine f_s [fi (0)] rfl rfl ?_
      refine f_ist [(5, fi (0)), (4, fi (3)), (0, .ref 38), (1, .ref 3), (2, fi (x)), (3, fi (k))] rfl (by decide) hL rfl (fun L55 hL55 => ?_)
      refine f_aln 2 rfl hL55 rfl ?_
      refine m_gfr so38 rfl hw rfl (by decide) ?_
      refine f_iln 4 rfl hL55 rfl ?_
      refine m_ia sa39 (m 39 (x).toNat) rfl hw hm (by omega) (by omega) (by decide) rfl ?_
      refine f_il 1 rfl hL55 rfl ?_
      refine b_ishr rfl ?_
      refine f_s [fi (1), fi (iR (m 39 (x).toNat) (3))] rfl rfl ?_
      refine b_iand rfl ?_
      refine f_s [fi (1), fi (iA (iR (m 39 (x).toNat) (3)) (1))] rfl rfl ?_
      refine f_ic rfl iA_r (by decide) (fun c2 => ?_) (fun c2 => ?_)
      · have c2 : ¬ (iA (iR (m 39 (x).toNat) (3)) (1) : Int) = (1 : Int) := c2
        refine f_s [fi (0)] rfl rfl ?_
        refine f_ist [(6, fi (0)), (5, fi (0)), (4, fi (3)), (0, .ref 38), (1, .ref 3), (2, fi (x)), (3, fi (k))] rfl (by decide) hL55 rfl (fun L56 hL56 => ?_)
        refine f_il 1 rfl hL56 rfl ?_
        refine f_if rfl (by decide) (fun _ => ?_) (fun c_9 => absurd (show (0 : Int) = (0 : Int) from (by decide)) c_9)
        refine f_inc 2 [(4, fi (4)), (6, fi (0)), (5, fi (0)), (0, .ref 38), (1, .ref 3), (2, fi (x)), (3, fi (k))] rfl (by decide) hL56 rfl rfl (fun L57 hL57 => ?_)
        refine f_goto rfl ?_
        rw [show cd3 m x k = (cdT m x k 3 && cd4 m x k) from rfl, show cdT m x k 3 = true by unfold cdT; rw [decide_eq_false c1, Bool.false_and]; rfl, Bool.true_and]
        exact hK4 hc _ hw hm (hL57.sel [0, 3, 4, 5, 6] rfl)
      · have c2 : ¬ (¬ (iA (iR (m 39 (x).toNat) (3)) (1) : Int) = (1 : Int)) := c2
        refine f_s [fi (1)] rfl rfl ?_
        refine f_goto rfl ?_
        refine f_ist [(6, fi (1)), (5, fi (0)), (4, fi (3)), (0, .ref 38), (1, .ref 3), (2, fi (x)), (3, fi (k))] rfl (by decide) hL55 rfl (fun L58 hL58 => ?_)
        refine f_il 1 rfl hL58 rfl ?_
        refine f_if rfl (by decide) (fun _ => ?_) (fun c_9 => absurd (show (0 : Int) = (0 : Int) from (by decide)) c_9)
        refine f_inc 2 [(4, fi (4)), (6, fi (1)), (5, fi (0)), (0, .ref 38), (1, .ref 3), (2, fi (x)), (3, fi (k))] rfl (by decide) hL58 rfl rfl (fun L59 hL59 => ?_)
        refine f_goto rfl ?_
        rw [show cd3 m x k = (cdT m x k 3 && cd4 m x k) from rfl, show cdT m x k 3 = true by unfold cdT; rw [decide_eq_false c1, Bool.false_and]; rfl, Bool.true_and]
        exact hK4 hc _ hw hm (hL59.sel [0, 3, 4, 5, 6] rfl)
    · have c1 : ¬ (¬ (iA (iR (m 40 (k).toNat) (3)) (1) : Int) = (1 : Int)) := c1
      have c1 : iA (iR (m 40 (k).toNat) (3)) (1) = 1 := by omega
      refine f_s [fi (1)] rfl rfl ?_
      refine f_goto rfl ?_
      refine f_ist [(5, fi (1)), (4, fi (3)), (0, .ref 38), (1, .ref 3), (2, fi (x)), (3, fi (k))] rfl (by decide) hL rfl (fun L60 hL60 => ?_)
      refine f_aln 2 rfl hL60 rfl ?_
      refine m_gfr so38 rfl hw rfl (by decide) ?_
      refine f_iln 4 rfl hL60 rfl ?_
      refine m_ia sa39 (m 39 (x).toNat) rfl hw hm (by omega) (by omega) (by decide) rfl ?_
      refine f_il 1 rfl hL60 rfl ?_
      refine b_ishr rfl ?_
      refine f_s [fi (1), fi (iR (m 39 (x).toNat) (3))] rfl rfl ?_
      refine b_iand rfl ?_
      refine f_s [fi (1), fi (iA (iR (m 39 (x).toNat) (3)) (1))] rfl rfl ?_
      refine f_ic rfl iA_r (by decide) (fun c2 => ?_) (fun c2 => ?_)
      · have c2 : ¬ (iA (iR (m 39 (x).toNat) (3)) (1) : Int) = (1 : Int) := c2
        refine f_s [fi (0)] rfl rfl ?_
        refine f_ist [(6, fi (0)), (5, fi (1)), (4, fi (3)), (0, .ref 38), (1, .ref 3), (2, fi (x)), (3, fi (k))] rfl (by decide) hL60 rfl (fun L61 hL61 => ?_)
        refine f_il 1 rfl hL61 rfl ?_
        refine f_if rfl (by decide) (fun c_9 => absurd (show (1 : Int) = (0 : Int) from c_9) (by decide)) (fun _ => ?_)
        refine f_il 0 rfl hL61 rfl ?_
        refine f_if rfl (by decide) (fun c_9 => absurd (show ¬ (0 : Int) = (0 : Int) from c_9) (by decide)) (fun _ => ?_)
        refine f_aln 4 rfl hL61 rfl ?_
        refine f_iln 5 rfl hL61 rfl ?_
        refine f_il 2 rfl hL61 rfl ?_
        refine m_k1 (t84 (h := 3) hp (by omega) (by decide)) hw hm rfl rfl rfl (m_ar so3 hw rfl) rfl (fun hc7 hw7 hm7 => ?_)
        refine f_if rfl (bI_r _) (fun c3 => ?_) (fun c3 => ?_)
        · have c3 : ¬ (bI (decide ((0 ≤ x ∧ x < m 3 6) ∧ m 6 (x).toNat ≤ 3 ∧ 3 ≤ m 7 (x).toNat)) : Int) = (0 : Int) := c3
          have c3 : (0 ≤ x ∧ x < m 3 6) ∧ m 6 (x).toNat ≤ 3 ∧ 3 ≤ m 7 (x).toNat := bI_t c3
          refine f_inc 2 [(4, fi (4)), (6, fi (0)), (5, fi (1)), (0, .ref 38), (1, .ref 3), (2, fi (x)), (3, fi (k))] rfl (by decide) hL61 rfl rfl (fun L62 hL62 => ?_)
          refine f_goto rfl ?_
          rw [show cd3 m x k = (cdT m x k 3 && cd4 m x k) from rfl, show cdT m x k 3 = true by unfold cdT; rw [decide_eq_true c1, decide_eq_false c2, decide_eq_true c3]; rfl, Bool.true_and]
          exact hK4 hc7 _ hw7 hm7 (hL62.sel [0, 3, 4, 5, 6] rfl)
        · have c3 : ¬ (¬ (bI (decide ((0 ≤ x ∧ x < m 3 6) ∧ m 6 (x).toNat ≤ 3 ∧ 3 ≤ m 7 (x).toNat)) : Int) = (0 : Int)) := c3
          have c3 : ¬ ((0 ≤ x ∧ x < m 3 6) ∧ m 6 (x).toNat ≤ 3 ∧ 3 ≤ m 7 (x).toNat) := bI_n c3
          refine f_s [fi (0)] rfl rfl ?_
          exact f_ret2 rfl (Or.inl rfl) ⟨by rw [show cd3 m x k = (cdT m x k 3 && cd4 m x k) from rfl, show cdT m x k 3 = false by unfold cdT; rw [decide_eq_true c1, decide_eq_false c2, decide_eq_false c3]; rfl]; rfl, hw7, hm7⟩
      · have c2 : ¬ (¬ (iA (iR (m 39 (x).toNat) (3)) (1) : Int) = (1 : Int)) := c2
        have c2 : iA (iR (m 39 (x).toNat) (3)) (1) = 1 := by omega
        refine f_s [fi (1)] rfl rfl ?_
        refine f_goto rfl ?_
        refine f_ist [(6, fi (1)), (5, fi (1)), (4, fi (3)), (0, .ref 38), (1, .ref 3), (2, fi (x)), (3, fi (k))] rfl (by decide) hL60 rfl (fun L63 hL63 => ?_)
        refine f_il 1 rfl hL63 rfl ?_
        refine f_if rfl (by decide) (fun c_9 => absurd (show (1 : Int) = (0 : Int) from c_9) (by decide)) (fun _ => ?_)
        refine f_il 0 rfl hL63 rfl ?_
        refine f_if rfl (by decide) (fun _ => ?_) (fun c_9 => absurd (show ¬ (1 : Int) = (0 : Int) from (by decide)) c_9)
        refine f_s [fi (0)] rfl rfl ?_
        exact f_ret2 rfl (Or.inl rfl) ⟨by rw [show cd3 m x k = (cdT m x k 3 && cd4 m x k) from rfl, show cdT m x k 3 = false by unfold cdT; rw [decide_eq_true c1, decide_eq_true c2, Bool.true_or]; rfl]; rfl, hw, hm⟩
  have hK2 : ∀ (hc : ev_H) (L : ev_L), y_in yGw hc → gi hc = m → f_L L [(4, fi (2)), (0, .ref 38), (1, .ref 3), (2, fi (x)), (3, fi (k))] → x_W none (2, 0, 7, 3, 3, 2, 43, 0, 0, ev_t156) 23 L [] hc 0 0 (fun r' h' => r' = some (fi (bI (cd2 m x k))) ∧ y_in yGw h' ∧ gi h' = m) := fun hc L hw hm hL => by
    refine f_il 0 rfl hL rfl ?_
    refine f_bipush (n := 10) rfl (by decide) ?_
    refine f_ic rfl (by decide) (by decide) (fun c_9 => absurd (show (10 : Int) ≤ (2 : Int) from c_9) (by decide)) (fun _ => ?_)
    refine f_aln 1 rfl hL rfl ?_
    refine m_gfr so38 rfl hw rfl (by decide) ?_
    refine f_iln 4 rfl hL rfl ?_
    refine m_ia sa40 (m 40 (k).toNat) rfl hw hm (by omega) (by omega) (by decide) rfl ?_
    refine f_il 0 rfl hL rfl ?_
    refine b_ishr rfl ?_
    refine f_s [fi (1), fi (iR (m 40 (k).toNat) (2))] rfl rfl ?_
    refine b_iand rfl ?_
    refine f_s [fi (1), fi (iA (iR (m 40 (k).toNat) (2)) (1))] rfl rfl ?_
    refine f_ic rfl iA_r (by decide) (fun c1 => ?_) (fun c1 => ?_)
    · have c1 : ¬ (iA (iR (m 40 (k).toNat) (2)) (1) : Int) = (1 : Int) := c1
      refine f_s [fi (0)] rfl rfl ?_
      refine f_ist [(5, fi (0)), (4, fi (2)), (0, .ref 38), (1, .ref 3), (2, fi (x)), (3, fi (k))] rfl (by decide) hL rfl (fun L64 hL64 => ?_)
      refine f_aln 2 rfl hL64 rfl ?_
      refine m_gfr so38 rfl hw rfl (by decide) ?_
      refine f_iln 4 rfl hL64 rfl ?_
      refine m_ia sa39 (m 39 (x).toNat) rfl hw hm (by omega) (by omega) (by decide) rfl ?_
      refine f_il 1 rfl hL64 rfl ?_
      refine b_ishr rfl ?_
      refine f_s [fi (1), fi (iR (m 39 (x).toNat) (2))] rfl rfl ?_
      refine b_iand rfl ?_
      refine f_s [fi (1), fi (iA (iR (m 39 (x).toNat) (2)) (1))] rfl rfl ?_
      refine f_ic rfl iA_r (by decide) (fun c2 => ?_) (fun c2 => ?_)
      · have c2 : ¬ (iA (iR (m 39 (x).toNat) (2)) (1) : Int) = (1 : Int) := c2
        refine f_s [fi (0)] rfl rfl ?_
        refine f_ist [(6, fi (0)), (5, fi (0)), (4, fi (2)), (0, .ref 38), (1, .ref 3), (2, fi (x)), (3, fi (k))] rfl (by decide) hL64 rfl (fun L65 hL65 => ?_)
        refine f_il 1 rfl hL65 rfl ?_
        refine f_if rfl (by decide) (fun _ => ?_) (fun c_9 => absurd (show (0 : Int) = (0 : Int) from (by decide)) c_9)
        refine f_inc 2 [(4, fi (3)), (6, fi (0)), (5, fi (0)), (0, .ref 38), (1, .ref 3), (2, fi (x)), (3, fi (k))] rfl (by decide) hL65 rfl rfl (fun L66 hL66 => ?_)
        refine f_goto rfl ?_
        rw [show cd2 m x k = (cdT m x k 2 && cd3 m x k) from rfl, show cdT m x k 2 = true by unfold cdT; rw [decide_eq_false c1, Bool.false_and]; rfl, Bool.true_and]
        exact hK3 hc _ hw hm (hL66.sel [0, 3, 4, 5, 6] rfl)
      · have c2 : ¬ (¬ (iA (iR (m 39 (x).toNat) (2)) (1) : Int) = (1 : Int)) := c2
        refine f_s [fi (1)] rfl rfl ?_
        refine f_goto rfl ?_
        refine f_ist [(6, fi (1)), (5, fi (0)), (4, fi (2)), (0, .ref 38), (1, .ref 3), (2, fi (x)), (3, fi (k))] rfl (by decide) hL64 rfl (fun L67 hL67 => ?_)
        refine f_il 1 rfl hL67 rfl ?_
        refine f_if rfl (by decide) (fun _ => ?_) (fun c_9 => absurd (show (0 : Int) = (0 : Int) from (by decide)) c_9)
        refine f_inc 2 [(4, fi (3)), (6, fi (1)), (5, fi (0)), (0, .ref 38), (1, .ref 3), (2, fi (x)), (3, fi (k))] rfl (by decide) hL67 rfl rfl (fun L68 hL68 => ?_)
        refine f_goto rfl ?_
        rw [show cd2 m x k = (cdT m x k 2 && cd3 m x k) from rfl, show cdT m x k 2 = true by unfold cdT; rw [decide_eq_false c1, Bool.false_and]; rfl, Bool.true_and]
        exact hK3 hc _ hw hm (hL68.sel [0, 3, 4, 5, 6] rfl)
    · have c1 : ¬ (¬ (iA (iR (m 40 (k).toNat) (2)) (1) : Int) = (1 : Int)) := c1
      have c1 : iA (iR (m 40 (k).toNat) (2)) (1) = 1 := by omega
      refine f_s [fi (1)] rfl rfl ?_
      refine f_goto rfl ?_
      refine f_ist [(5, fi (1)), (4, fi (2)), (0, .ref 38), (1, .ref 3), (2, fi (x)), (3, fi (k))] rfl (by decide) hL rfl (fun L69 hL69 => ?_)
      refine f_aln 2 rfl hL69 rfl ?_
      refine m_gfr so38 rfl hw rfl (by decide) ?_
      refine f_iln 4 rfl hL69 rfl ?_
      refine m_ia sa39 (m 39 (x).toNat) rfl hw hm (by omega) (by omega) (by decide) rfl ?_
      refine f_il 1 rfl hL69 rfl ?_
      refine b_ishr rfl ?_
      refine f_s [fi (1), fi (iR (m 39 (x).toNat) (2))] rfl rfl ?_
      refine b_iand rfl ?_
      refine f_s [fi (1), fi (iA (iR (m 39 (x).toNat) (2)) (1))] rfl rfl ?_
      refine f_ic rfl iA_r (by decide) (fun c2 => ?_) (fun c2 => ?_)
      · have c2 : ¬ (iA (iR (m 39 (x).toNat) (2)) (1) : Int) = (1 : Int) := c2
        refine f_s [fi (0)] rfl rfl ?_
        refine f_ist [(6, fi (0)), (5, fi (1)), (4, fi (2)), (0, .ref 38), (1, .ref 3), (2, fi (x)), (3, fi (k))] rfl (by decide) hL69 rfl (fun L70 hL70 => ?_)
        refine f_il 1 rfl hL70 rfl ?_
        refine f_if rfl (by decide) (fun c_9 => absurd (show (1 : Int) = (0 : Int) from c_9) (by decide)) (fun _ => ?_)
        refine f_il 0 rfl hL70 rfl ?_
        refine f_if rfl (by decide) (fun c_9 => absurd (show ¬ (0 : Int) = (0 : Int) from c_9) (by decide)) (fun _ => ?_)
        refine f_aln 4 rfl hL70 rfl ?_
        refine f_iln 5 rfl hL70 rfl ?_
        refine f_il 2 rfl hL70 rfl ?_
        refine m_k1 (t84 (h := 2) hp (by omega) (by decide)) hw hm rfl rfl rfl (m_ar so3 hw rfl) rfl (fun hc8 hw8 hm8 => ?_)
        refine f_if rfl (bI_r _) (fun c3 => ?_) (fun c3 => ?_)
        · have c3 : ¬ (bI (decide ((0 ≤ x ∧ x < m 3 6) ∧ m 6 (x).toNat ≤ 2 ∧ 2 ≤ m 7 (x).toNat)) : Int) = (0 : Int) := c3
          have c3 : (0 ≤ x ∧ x < m 3 6) ∧ m 6 (x).toNat ≤ 2 ∧ 2 ≤ m 7 (x).toNat := bI_t c3
          refine f_inc 2 [(4, fi (3)), (6, fi (0)), (5, fi (1)), (0, .ref 38), (1, .ref 3), (2, fi (x)), (3, fi (k))] rfl (by decide) hL70 rfl rfl (fun L71 hL71 => ?_)
          refine f_goto rfl ?_
          rw [show cd2 m x k = (cdT m x k 2 && cd3 m x k) from rfl, show cdT m x k 2 = true by unfold cdT; rw [decide_eq_true c1, decide_eq_false c2, decide_eq_true c3]; rfl, Bool.true_and]
          exact hK3 hc8 _ hw8 hm8 (hL71.sel [0, 3, 4, 5, 6] rfl)
        · have c3 : ¬ (¬ (bI (decide ((0 ≤ x ∧ x < m 3 6) ∧ m 6 (x).toNat ≤ 2 ∧ 2 ≤ m 7 (x).toNat)) : Int) = (0 : Int)) := c3
          have c3 : ¬ ((0 ≤ x ∧ x < m 3 6) ∧ m 6 (x).toNat ≤ 2 ∧ 2 ≤ m 7 (x).toNat) := bI_n c3
          refine f_s [fi (0)] rfl rfl ?_
          exact f_ret2 rfl (Or.inl rfl) ⟨by rw [show cd2 m x k = (cdT m x k 2 && cd3 m x k) from rfl, show cdT m x k 2 = false by unfold cdT; rw [decide_eq_true c1, decide_eq_false c2, decide_eq_false c3]; rfl]; rfl, hw8, hm8⟩
      · have c2 : ¬ (¬ (iA (iR (m 39 (x).toNat) (2)) (1) : Int) = (1 : Int)) := c2
        have c2 : iA (iR (m 39 (x).toNat) (2)) (1) = 1 := by omega
        refine f_s [fi (1)] rfl rfl ?_
        refine f_goto rfl ?_
        refine f_ist [(6, fi (1)), (5, fi (1)), (4, fi (2)), (0, .ref 38), (1, .ref 3), (2, fi (x)), (3, fi (k))] rfl (by decide) hL69 rfl (fun L72 hL72 => ?_)
        refine f_il 1 rfl hL72 rfl ?_
        refine f_if rfl (by decide) (fun c_9 => absurd (show (1 : Int) = (0 : Int) from c_9) (by decide)) (fun _ => ?_)
        refine f_il 0 rfl hL72 rfl ?_
        refine f_if rfl (by decide) (fun _ => ?_) (fun c_9 => absurd (show ¬ (1 : Int) = (0 : Int) from (by decide)) c_9)
        refine f_s [fi (0)] rfl rfl ?_
        exact f_ret2 rfl (Or.inl rfl) ⟨by rw [show cd2 m x k = (cdT m x k 2 && cd3 m x k) from rfl, show cdT m x k 2 = false by unfold cdT; rw [decide_eq_true c1, decide_eq_true c2, Bool.true_or]; rfl]; rfl, hw, hm⟩
  have hK1 : ∀ (hc : ev_H) (L : ev_L), y_in yGw hc → gi hc = m → f_L L [(4, fi (1)), (0, .ref 38), (1, .ref 3), (2, fi (x)), (3, fi (k))] → x_W none (2, 0, 7, 3, 3, 2, 43, 0, 0, ev_t156) 23 L [] hc 0 0 (fun r' h' => r' = some (fi (bI (cd1 m x k))) ∧ y_in yGw h' ∧ gi h' = m) := fun hc L hw hm hL => by
    refine f_il 0 rfl hL rfl ?_
    refine f_bipush (n := 10) rfl (by decide) ?_
    refine f_ic rfl (by decide) (by decide) (fun c_9 => absurd (show (10 : Int) ≤ (1 : Int) from c_9) (by decide)) (fun _ => ?_)
    refine f_aln 1 rfl hL rfl ?_
    refine m_gfr so38 rfl hw rfl (by decide) ?_
    refine f_iln 4 rfl hL rfl ?_
    refine m_ia sa40 (m 40 (k).toNat) rfl hw hm (by omega) (by omega) (by decide) rfl ?_
    refine f_il 0 rfl hL rfl ?_
    refine b_ishr rfl ?_
    refine f_s [fi (1), fi (iR (m 40 (k).toNat) (1))] rfl rfl ?_
    refine b_iand rfl ?_
    refine f_s [fi (1), fi (iA (iR (m 40 (k).toNat) (1)) (1))] rfl rfl ?_
    refine f_ic rfl iA_r (by decide) (fun c1 => ?_) (fun c1 => ?_)
    · have c1 : ¬ (iA (iR (m 40 (k).toNat) (1)) (1) : Int) = (1 : Int) := c1
      refine f_s [fi (0)] rfl rfl ?_
      refine f_ist [(5, fi (0)), (4, fi (1)), (0, .ref 38), (1, .ref 3), (2, fi (x)), (3, fi (k))] rfl (by decide) hL rfl (fun L73 hL73 => ?_)
      refine f_aln 2 rfl hL73 rfl ?_
      refine m_gfr so38 rfl hw rfl (by decide) ?_
      refine f_iln 4 rfl hL73 rfl ?_
      refine m_ia sa39 (m 39 (x).toNat) rfl hw hm (by omega) (by omega) (by decide) rfl ?_
      refine f_il 1 rfl hL73 rfl ?_
      refine b_ishr rfl ?_
      refine f_s [fi (1), fi (iR (m 39 (x).toNat) (1))] rfl rfl ?_
      refine b_iand rfl ?_
      refine f_s [fi (1), fi (iA (iR (m 39 (x).toNat) (1)) (1))] rfl rfl ?_
      refine f_ic rfl iA_r (by decide) (fun c2 => ?_) (fun c2 => ?_)
      · have c2 : ¬ (iA (iR (m 39 (x).toNat) (1)) (1) : Int) = (1 : Int) := c2
        refine f_s [fi (0)] rfl rfl ?_
        refine f_ist [(6, fi (0)), (5, fi (0)), (4, fi (1)), (0, .ref 38), (1, .ref 3), (2, fi (x)), (3, fi (k))] rfl (by decide) hL73 rfl (fun L74 hL74 => ?_)
        refine f_il 1 rfl hL74 rfl ?_
        refine f_if rfl (by decide) (fun _ => ?_) (fun c_9 => absurd (show (0 : Int) = (0 : Int) from (by decide)) c_9)
        refine f_inc 2 [(4, fi (2)), (6, fi (0)), (5, fi (0)), (0, .ref 38), (1, .ref 3), (2, fi (x)), (3, fi (k))] rfl (by decide) hL74 rfl rfl (fun L75 hL75 => ?_)
        refine f_goto rfl ?_
        rw [show cd1 m x k = (cdT m x k 1 && cd2 m x k) from rfl, show cdT m x k 1 = true by unfold cdT; rw [decide_eq_false c1, Bool.false_and]; rfl, Bool.true_and]
        exact hK2 hc _ hw hm (hL75.sel [0, 3, 4, 5, 6] rfl)
      · have c2 : ¬ (¬ (iA (iR (m 39 (x).toNat) (1)) (1) : Int) = (1 : Int)) := c2
        refine f_s [fi (1)] rfl rfl ?_
        refine f_goto rfl ?_
        refine f_ist [(6, fi (1)), (5, fi (0)), (4, fi (1)), (0, .ref 38), (1, .ref 3), (2, fi (x)), (3, fi (k))] rfl (by decide) hL73 rfl (fun L76 hL76 => ?_)
        refine f_il 1 rfl hL76 rfl ?_
        refine f_if rfl (by decide) (fun _ => ?_) (fun c_9 => absurd (show (0 : Int) = (0 : Int) from (by decide)) c_9)
        refine f_inc 2 [(4, fi (2)), (6, fi (1)), (5, fi (0)), (0, .ref 38), (1, .ref 3), (2, fi (x)), (3, fi (k))] rfl (by decide) hL76 rfl rfl (fun L77 hL77 => ?_)
        refine f_goto rfl ?_
        rw [show cd1 m x k = (cdT m x k 1 && cd2 m x k) from rfl, show cdT m x k 1 = true by unfold cdT; rw [decide_eq_false c1, Bool.false_and]; rfl, Bool.true_and]
        exact hK2 hc _ hw hm (hL77.sel [0, 3, 4, 5, 6] rfl)
    · have c1 : ¬ (¬ (iA (iR (m 40 (k).toNat) (1)) (1) : Int) = (1 : Int)) := c1
      have c1 : iA (iR (m 40 (k).toNat) (1)) (1) = 1 := by omega
      refine f_s [fi (1)] rfl rfl ?_
      refine f_goto rfl ?_
      refine f_ist [(5, fi (1)), (4, fi (1)), (0, .ref 38), (1, .ref 3), (2, fi (x)), (3, fi (k))] rfl (by decide) hL rfl (fun L78 hL78 => ?_)
      refine f_aln 2 rfl hL78 rfl ?_
      refine m_gfr so38 rfl hw rfl (by decide) ?_
      refine f_iln 4 rfl hL78 rfl ?_
      refine m_ia sa39 (m 39 (x).toNat) rfl hw hm (by omega) (by omega) (by decide) rfl ?_
      refine f_il 1 rfl hL78 rfl ?_
      refine b_ishr rfl ?_
      refine f_s [fi (1), fi (iR (m 39 (x).toNat) (1))] rfl rfl ?_
      refine b_iand rfl ?_
      refine f_s [fi (1), fi (iA (iR (m 39 (x).toNat) (1)) (1))] rfl rfl ?_
      refine f_ic rfl iA_r (by decide) (fun c2 => ?_) (fun c2 => ?_)
      · have c2 : ¬ (iA (iR (m 39 (x).toNat) (1)) (1) : Int) = (1 : Int) := c2
        refine f_s [fi (0)] rfl rfl ?_
        refine f_ist [(6, fi (0)), (5, fi (1)), (4, fi (1)), (0, .ref 38), (1, .ref 3), (2, fi (x)), (3, fi (k))] rfl (by decide) hL78 rfl (fun L79 hL79 => ?_)
        refine f_il 1 rfl hL79 rfl ?_
        refine f_if rfl (by decide) (fun c_9 => absurd (show (1 : Int) = (0 : Int) from c_9) (by decide)) (fun _ => ?_)
        refine f_il 0 rfl hL79 rfl ?_
        refine f_if rfl (by decide) (fun c_9 => absurd (show ¬ (0 : Int) = (0 : Int) from c_9) (by decide)) (fun _ => ?_)
        refine f_aln 4 rfl hL79 rfl ?_
        refine f_iln 5 rfl hL79 rfl ?_
        refine f_il 2 rfl hL79 rfl ?_
        refine m_k1 (t84 (h := 1) hp (by omega) (by decide)) hw hm rfl rfl rfl (m_ar so3 hw rfl) rfl (fun hc9 hw9 hm9 => ?_)
        refine f_if rfl (bI_r _) (fun c3 => ?_) (fun c3 => ?_)
        · have c3 : ¬ (bI (decide ((0 ≤ x ∧ x < m 3 6) ∧ m 6 (x).toNat ≤ 1 ∧ 1 ≤ m 7 (x).toNat)) : Int) = (0 : Int) := c3
          have c3 : (0 ≤ x ∧ x < m 3 6) ∧ m 6 (x).toNat ≤ 1 ∧ 1 ≤ m 7 (x).toNat := bI_t c3
          refine f_inc 2 [(4, fi (2)), (6, fi (0)), (5, fi (1)), (0, .ref 38), (1, .ref 3), (2, fi (x)), (3, fi (k))] rfl (by decide) hL79 rfl rfl (fun L80 hL80 => ?_)
          refine f_goto rfl ?_
          rw [show cd1 m x k = (cdT m x k 1 && cd2 m x k) from rfl, show cdT m x k 1 = true by unfold cdT; rw [decide_eq_true c1, decide_eq_false c2, decide_eq_true c3]; rfl, Bool.true_and]
          exact hK2 hc9 _ hw9 hm9 (hL80.sel [0, 3, 4, 5, 6] rfl)
        · have c3 : ¬ (¬ (bI (decide ((0 ≤ x ∧ x < m 3 6) ∧ m 6 (x).toNat ≤ 1 ∧ 1 ≤ m 7 (x).toNat)) : Int) = (0 : Int)) := c3
          have c3 : ¬ ((0 ≤ x ∧ x < m 3 6) ∧ m 6 (x).toNat ≤ 1 ∧ 1 ≤ m 7 (x).toNat) := bI_n c3
          refine f_s [fi (0)] rfl rfl ?_
          exact f_ret2 rfl (Or.inl rfl) ⟨by rw [show cd1 m x k = (cdT m x k 1 && cd2 m x k) from rfl, show cdT m x k 1 = false by unfold cdT; rw [decide_eq_true c1, decide_eq_false c2, decide_eq_false c3]; rfl]; rfl, hw9, hm9⟩
      · have c2 : ¬ (¬ (iA (iR (m 39 (x).toNat) (1)) (1) : Int) = (1 : Int)) := c2
        have c2 : iA (iR (m 39 (x).toNat) (1)) (1) = 1 := by omega
        refine f_s [fi (1)] rfl rfl ?_
        refine f_goto rfl ?_
        refine f_ist [(6, fi (1)), (5, fi (1)), (4, fi (1)), (0, .ref 38), (1, .ref 3), (2, fi (x)), (3, fi (k))] rfl (by decide) hL78 rfl (fun L81 hL81 => ?_)
        refine f_il 1 rfl hL81 rfl ?_
        refine f_if rfl (by decide) (fun c_9 => absurd (show (1 : Int) = (0 : Int) from c_9) (by decide)) (fun _ => ?_)
        refine f_il 0 rfl hL81 rfl ?_
        refine f_if rfl (by decide) (fun _ => ?_) (fun c_9 => absurd (show ¬ (1 : Int) = (0 : Int) from (by decide)) c_9)
        refine f_s [fi (0)] rfl rfl ?_
        exact f_ret2 rfl (Or.inl rfl) ⟨by rw [show cd1 m x k = (cdT m x k 1 && cd2 m x k) from rfl, show cdT m x k 1 = false by unfold cdT; rw [decide_eq_true c1, decide_eq_true c2, Bool.true_or]; rfl]; rfl, hw, hm⟩
  have hK0 : ∀ (hc : ev_H) (L : ev_L), y_in yGw hc → gi hc = m → f_L L [(4, fi (0)), (0, .ref 38), (1, .ref 3), (2, fi (x)), (3, fi (k))] → x_W none (2, 0, 7, 3, 3, 2, 43, 0, 0, ev_t156) 23 L [] hc 0 0 (fun r' h' => r' = some (fi (bI (cd0 m x k))) ∧ y_in yGw h' ∧ gi h' = m) := fun hc L hw hm hL => by
    refine f_il 0 rfl hL rfl ?_
    refine f_bipush (n := 10) rfl (by decide) ?_
    refine f_ic rfl (by decide) (by decide) (fun c_9 => absurd (show (10 : Int) ≤ (0 : Int) from c_9) (by decide)) (fun _ => ?_)
    refine f_aln 1 rfl hL rfl ?_
    refine m_gfr so38 rfl hw rfl (by decide) ?_
    refine f_iln 4 rfl hL rfl ?_
    refine m_ia sa40 (m 40 (k).toNat) rfl hw hm (by omega) (by omega) (by decide) rfl ?_
    refine f_il 0 rfl hL rfl ?_
    refine b_ishr rfl ?_
    refine f_s [fi (1), fi (iR (m 40 (k).toNat) (0))] rfl rfl ?_
    refine b_iand rfl ?_
    refine f_s [fi (1), fi (iA (iR (m 40 (k).toNat) (0)) (1))] rfl rfl ?_
    refine f_ic rfl iA_r (by decide) (fun c1 => ?_) (fun c1 => ?_)
    · have c1 : ¬ (iA (iR (m 40 (k).toNat) (0)) (1) : Int) = (1 : Int) := c1
      refine f_s [fi (0)] rfl rfl ?_
      refine f_ist [(5, fi (0)), (4, fi (0)), (0, .ref 38), (1, .ref 3), (2, fi (x)), (3, fi (k))] rfl (by decide) hL rfl (fun L82 hL82 => ?_)
      refine f_aln 2 rfl hL82 rfl ?_
      refine m_gfr so38 rfl hw rfl (by decide) ?_
      refine f_iln 4 rfl hL82 rfl ?_
      refine m_ia sa39 (m 39 (x).toNat) rfl hw hm (by omega) (by omega) (by decide) rfl ?_
      refine f_il 1 rfl hL82 rfl ?_
      refine b_ishr rfl ?_
      refine f_s [fi (1), fi (iR (m 39 (x).toNat) (0))] rfl rfl ?_
      refine b_iand rfl ?_
      refine f_s [fi (1), fi (iA (iR (m 39 (x).toNat) (0)) (1))] rfl rfl ?_
      refine f_ic rfl iA_r (by decide) (fun c2 => ?_) (fun c2 => ?_)
      · have c2 : ¬ (iA (iR (m 39 (x).toNat) (0)) (1) : Int) = (1 : Int) := c2
        refine f_s [fi (0)] rfl rfl ?_
        refine f_ist [(6, fi (0)), (5, fi (0)), (4, fi (0)), (0, .ref 38), (1, .ref 3), (2, fi (x)), (3, fi (k))] rfl (by decide) hL82 rfl (fun L83 hL83 => ?_)
        refine f_il 1 rfl hL83 rfl ?_
        refine f_if rfl (by decide) (fun _ => ?_) (fun c_9 => absurd (show (0 : Int) = (0 : Int) from (by decide)) c_9)
        refine f_inc 2 [(4, fi (1)), (6, fi (0)), (5, fi (0)), (0, .ref 38), (1, .ref 3), (2, fi (x)), (3, fi (k))] rfl (by decide) hL83 rfl rfl (fun L84 hL84 => ?_)
        refine f_goto rfl ?_
        rw [show cd0 m x k = (cdT m x k 0 && cd1 m x k) from rfl, show cdT m x k 0 = true by unfold cdT; rw [decide_eq_false c1, Bool.false_and]; rfl, Bool.true_and]
        exact hK1 hc _ hw hm (hL84.sel [0, 3, 4, 5, 6] rfl)
      · have c2 : ¬ (¬ (iA (iR (m 39 (x).toNat) (0)) (1) : Int) = (1 : Int)) := c2
        refine f_s [fi (1)] rfl rfl ?_
        refine f_goto rfl ?_
        refine f_ist [(6, fi (1)), (5, fi (0)), (4, fi (0)), (0, .ref 38), (1, .ref 3), (2, fi (x)), (3, fi (k))] rfl (by decide) hL82 rfl (fun L85 hL85 => ?_)
        refine f_il 1 rfl hL85 rfl ?_
        refine f_if rfl (by decide) (fun _ => ?_) (fun c_9 => absurd (show (0 : Int) = (0 : Int) from (by decide)) c_9)
        refine f_inc 2 [(4, fi (1)), (6, fi (1)), (5, fi (0)), (0, .ref 38), (1, .ref 3), (2, fi (x)), (3, fi (k))] rfl (by decide) hL85 rfl rfl (fun L86 hL86 => ?_)
        refine f_goto rfl ?_
        rw [show cd0 m x k = (cdT m x k 0 && cd1 m x k) from rfl, show cdT m x k 0 = true by unfold cdT; rw [decide_eq_false c1, Bool.false_and]; rfl, Bool.true_and]
        exact hK1 hc _ hw hm (hL86.sel [0, 3, 4, 5, 6] rfl)
    · have c1 : ¬ (¬ (iA (iR (m 40 (k).toNat) (0)) (1) : Int) = (1 : Int)) := c1
      have c1 : iA (iR (m 40 (k).toNat) (0)) (1) = 1 := by omega
      refine f_s [fi (1)] rfl rfl ?_
      refine f_goto rfl ?_
      refine f_ist [(5, fi (1)), (4, fi (0)), (0, .ref 38), (1, .ref 3), (2, fi (x)), (3, fi (k))] rfl (by decide) hL rfl (fun L87 hL87 => ?_)
      refine f_aln 2 rfl hL87 rfl ?_
      refine m_gfr so38 rfl hw rfl (by decide) ?_
      refine f_iln 4 rfl hL87 rfl ?_
      refine m_ia sa39 (m 39 (x).toNat) rfl hw hm (by omega) (by omega) (by decide) rfl ?_
      refine f_il 1 rfl hL87 rfl ?_
      refine b_ishr rfl ?_
      refine f_s [fi (1), fi (iR (m 39 (x).toNat) (0))] rfl rfl ?_
      refine b_iand rfl ?_
      refine f_s [fi (1), fi (iA (iR (m 39 (x).toNat) (0)) (1))] rfl rfl ?_
      refine f_ic rfl iA_r (by decide) (fun c2 => ?_) (fun c2 => ?_)
      · have c2 : ¬ (iA (iR (m 39 (x).toNat) (0)) (1) : Int) = (1 : Int) := c2
        refine f_s [fi (0)] rfl rfl ?_
        refine f_ist [(6, fi (0)), (5, fi (1)), (4, fi (0)), (0, .ref 38), (1, .ref 3), (2, fi (x)), (3, fi (k))] rfl (by decide) hL87 rfl (fun L88 hL88 => ?_)
        refine f_il 1 rfl hL88 rfl ?_
        refine f_if rfl (by decide) (fun c_9 => absurd (show (1 : Int) = (0 : Int) from c_9) (by decide)) (fun _ => ?_)
        refine f_il 0 rfl hL88 rfl ?_
        refine f_if rfl (by decide) (fun c_9 => absurd (show ¬ (0 : Int) = (0 : Int) from c_9) (by decide)) (fun _ => ?_)
        refine f_aln 4 rfl hL88 rfl ?_
        refine f_iln 5 rfl hL88 rfl ?_
        refine f_il 2 rfl hL88 rfl ?_
        refine m_k1 (t84 (h := 0) hp (by omega) (by decide)) hw hm rfl rfl rfl (m_ar so3 hw rfl) rfl (fun hc10 hw10 hm10 => ?_)
        refine f_if rfl (bI_r _) (fun c3 => ?_) (fun c3 => ?_)
        · have c3 : ¬ (bI (decide ((0 ≤ x ∧ x < m 3 6) ∧ m 6 (x).toNat ≤ 0 ∧ 0 ≤ m 7 (x).toNat)) : Int) = (0 : Int) := c3
          have c3 : (0 ≤ x ∧ x < m 3 6) ∧ m 6 (x).toNat ≤ 0 ∧ 0 ≤ m 7 (x).toNat := bI_t c3
          refine f_inc 2 [(4, fi (1)), (6, fi (0)), (5, fi (1)), (0, .ref 38), (1, .ref 3), (2, fi (x)), (3, fi (k))] rfl (by decide) hL88 rfl rfl (fun L89 hL89 => ?_)
          refine f_goto rfl ?_
          rw [show cd0 m x k = (cdT m x k 0 && cd1 m x k) from rfl, show cdT m x k 0 = true by unfold cdT; rw [decide_eq_true c1, decide_eq_false c2, decide_eq_true c3]; rfl, Bool.true_and]
          exact hK1 hc10 _ hw10 hm10 (hL89.sel [0, 3, 4, 5, 6] rfl)
        · have c3 : ¬ (¬ (bI (decide ((0 ≤ x ∧ x < m 3 6) ∧ m 6 (x).toNat ≤ 0 ∧ 0 ≤ m 7 (x).toNat)) : Int) = (0 : Int)) := c3
          have c3 : ¬ ((0 ≤ x ∧ x < m 3 6) ∧ m 6 (x).toNat ≤ 0 ∧ 0 ≤ m 7 (x).toNat) := bI_n c3
          refine f_s [fi (0)] rfl rfl ?_
          exact f_ret2 rfl (Or.inl rfl) ⟨by rw [show cd0 m x k = (cdT m x k 0 && cd1 m x k) from rfl, show cdT m x k 0 = false by unfold cdT; rw [decide_eq_true c1, decide_eq_false c2, decide_eq_false c3]; rfl]; rfl, hw10, hm10⟩
      · have c2 : ¬ (¬ (iA (iR (m 39 (x).toNat) (0)) (1) : Int) = (1 : Int)) := c2
        have c2 : iA (iR (m 39 (x).toNat) (0)) (1) = 1 := by omega
        refine f_s [fi (1)] rfl rfl ?_
        refine f_goto rfl ?_
        refine f_ist [(6, fi (1)), (5, fi (1)), (4, fi (0)), (0, .ref 38), (1, .ref 3), (2, fi (x)), (3, fi (k))] rfl (by decide) hL87 rfl (fun L90 hL90 => ?_)
        refine f_il 1 rfl hL90 rfl ?_
        refine f_if rfl (by decide) (fun c_9 => absurd (show (1 : Int) = (0 : Int) from c_9) (by decide)) (fun _ => ?_)
        refine f_il 0 rfl hL90 rfl ?_
        refine f_if rfl (by decide) (fun _ => ?_) (fun c_9 => absurd (show ¬ (1 : Int) = (0 : Int) from (by decide)) c_9)
        refine f_s [fi (0)] rfl rfl ?_
        exact f_ret2 rfl (Or.inl rfl) ⟨by rw [show cd0 m x k = (cdT m x k 0 && cd1 m x k) from rfl, show cdT m x k 0 = false by unfold cdT; rw [decide_eq_true c1, decide_eq_true c2, Bool.true_or]; rfl]; rfl, hw, hm⟩
  refine f_iln 3 rfl hL rfl ?_
  refine f_if rfl (by omega) (fun c_9 => absurd (show (k : Int) < (0 : Int) from c_9) (by omega)) (fun _ => ?_)
  refine f_iln 3 rfl hL rfl ?_
  refine f_s [fi (4), fi (k)] rfl rfl ?_
  refine f_ic rfl (by omega) (by omega) (fun c_9 => absurd (show (4 : Int) ≤ (k : Int) from c_9) (by omega)) (fun _ => ?_)
  refine f_iln 2 rfl hL rfl ?_
  refine f_if rfl (by omega) (fun c_9 => absurd (show (x : Int) < (0 : Int) from c_9) (by omega)) (fun _ => ?_)
  refine f_iln 2 rfl hL rfl ?_
  refine f_s [fi (5), fi (x)] rfl rfl ?_
  refine f_ic rfl (by omega) (by omega) (fun _ => ?_) (fun c_9 => absurd (show (x : Int) < (5 : Int) from (by omega)) c_9)
  refine f_s [fi (0)] rfl rfl ?_
  refine f_ist [(4, fi (0)), (0, .ref 38), (1, .ref 3), (2, fi (x)), (3, fi (k))] rfl (by decide) hL rfl (fun L91 hL91 => ?_)
  exact hK0 hc _ hw hm (hL91.sel [0, 1, 2, 3, 4] rfl))
def wsB (m : Nat → Nat → Int) (k x : Int) : Bool := decide ((0 ≤ k ∧ k < m 3 5) ∧ ¬ ((0 ≤ x ∧ x < m 3 6) ∧ iA (iR (m 9 5) (x)) (1) = 1) ∧ iA (iR (ft m x) (k)) (1) = 1) && cd0 m x k
def ws (m : Nat → Nat → Int) (k : Int) : Int := bits5 (wsB m k 0) (wsB m k 1) (wsB m k 2) (wsB m k 3) (wsB m k 4)
theorem t157 {m : Nat → Nat → Int} (hn : 0 ≤ m 3 5 ∧ m 3 5 ≤ 4) (hp : 0 ≤ m 3 6 ∧ m 3 6 ≤ 5) {k : Int} (k1 : 0 ≤ k ∧ k < 4) : h_M 157 [.ref 38, .ref 9, .ref 3, fi (k)] m (some (fi (ws m k))) m := h_M_of (R := ev_r157) rfl (fun hc hw hm => by
  have hL : f_L (lv_args 0 [.ref 38, .ref 9, .ref 3, fi (k)]) [(0, .ref 38), (1, .ref 9), (2, .ref 3), (3, fi (k))] := f_L_of rfl
  generalize lv_args 0 [.ref 38, .ref 9, .ref 3, fi (k)] = L at hL
  show x_W none (1, 0, 6, 3, 3, 3, 69, 0, 0, ev_t157) 0 L [] hc 0 0 _
  have hR := gi_R hm
  have hK5 : ∀ (hc : ev_H) (b : Int) (L : ev_L), y_in yGw hc → gi hc = m → f_L L [(5, fi (5)), (4, fi (b)), (0, .ref 38), (1, .ref 9), (2, .ref 3), (3, fi (k))] → x_W none (1, 0, 6, 3, 3, 3, 69, 0, 0, ev_t157) 6 L [] hc 0 0 (fun r' h' => r' = some (fi (b)) ∧ y_in yGw h' ∧ gi h' = m) := fun hc b L hw hm hL => by
    refine f_il 0 rfl hL rfl ?_
    refine f_s [fi (5), fi (5)] rfl rfl ?_
    refine f_ic rfl (by decide) (by decide) (fun _ => ?_) (fun c_9 => absurd (show (5 : Int) ≤ (5 : Int) from (by decide)) c_9)
    refine f_il 1 rfl hL rfl ?_
    exact f_ret1 rfl ⟨rfl, hw, hm⟩
  have hK4 : ∀ (hc : ev_H) (b : Int) (L : ev_L), y_in yGw hc → gi hc = m → f_L L [(5, fi (4)), (4, fi (b)), (0, .ref 38), (1, .ref 9), (2, .ref 3), (3, fi (k))] → x_W none (1, 0, 6, 3, 3, 3, 69, 0, 0, ev_t157) 6 L [] hc 0 0 (fun r' h' => r' = some (fi (bS (wsB m k 4) (iS 1 4) (b))) ∧ y_in yGw h' ∧ gi h' = m) := fun hc b L hw hm hL => by
    refine f_il 0 rfl hL rfl ?_
    refine f_s [fi (5), fi (4)] rfl rfl ?_
    refine f_ic rfl (by decide) (by decide) (fun c_9 => absurd (show (5 : Int) ≤ (4 : Int) from c_9) (by decide)) (fun _ => ?_)
    refine f_aln 3 rfl hL rfl ?_
    refine f_il 0 rfl hL rfl ?_
    refine f_iln 5 rfl hL rfl ?_
    refine m_k1 (t64_9 (x := 4) hn hp (by decide) (by omega)) hw hm rfl rfl rfl (m_ar so9 hw rfl) rfl (fun hc1 hw1 hm1 => ?_)
    refine f_if rfl (bI_r _) (fun c1 => ?_) (fun c1 => ?_)
    · have c1 : (bI (decide ((0 ≤ k ∧ k < m 3 5) ∧ ¬ ((0 ≤ (4 : Int) ∧ (4 : Int) < m 3 6) ∧ iA (iR (m 9 5) ((4 : Int))) (1) = 1) ∧ iA (iR (ft m (4 : Int)) (k)) (1) = 1)) : Int) = (0 : Int) := c1
      have c1 : ¬ ((0 ≤ k ∧ k < m 3 5) ∧ ¬ ((0 ≤ (4 : Int) ∧ (4 : Int) < m 3 6) ∧ iA (iR (m 9 5) ((4 : Int))) (1) = 1) ∧ iA (iR (ft m (4 : Int)) (k)) (1) = 1) := bI_f c1
      refine f_inc 0 [(5, fi (5)), (4, fi (b)), (0, .ref 38), (1, .ref 9), (2, .ref 3), (3, fi (k))] rfl (by decide) hL rfl rfl (fun L1 hL1 => ?_)
      refine f_goto rfl ?_
      rw [show wsB m k 4 = false by unfold wsB; rw [decide_eq_false c1, Bool.false_and]; try rfl]
      exact hK5 hc1 _ _ hw1 hm1 (hL1.sel [0, 1, 2, 3, 4, 5] rfl)
    · have c1 : ¬ ((bI (decide ((0 ≤ k ∧ k < m 3 5) ∧ ¬ ((0 ≤ (4 : Int) ∧ (4 : Int) < m 3 6) ∧ iA (iR (m 9 5) ((4 : Int))) (1) = 1) ∧ iA (iR (ft m (4 : Int)) (k)) (1) = 1)) : Int) = (0 : Int)) := c1
      have c1 : (0 ≤ k ∧ k < m 3 5) ∧ ¬ ((0 ≤ (4 : Int) ∧ (4 : Int) < m 3 6) ∧ iA (iR (m 9 5) ((4 : Int))) (1) = 1) ∧ iA (iR (ft m (4 : Int)) (k)) (1) = 1 := bI_t c1
      refine f_aln 2 rfl hL rfl ?_
      refine f_aln 4 rfl hL rfl ?_
      refine f_il 0 rfl hL rfl ?_
      refine f_iln 5 rfl hL rfl ?_
      refine m_k1 (t156 (x := 4) (k := k) hp (by decide) k1) hw1 hm1 rfl rfl rfl (m_ar so38 hw1 rfl) rfl (fun hc2 hw2 hm2 => ?_)
      refine f_if rfl (bI_r _) (fun c2 => ?_) (fun c2 => ?_)
      · have c2 : (bI (cd0 m 4 k) : Int) = (0 : Int) := c2
        refine f_inc 0 [(5, fi (5)), (4, fi (b)), (0, .ref 38), (1, .ref 9), (2, .ref 3), (3, fi (k))] rfl (by decide) hL rfl rfl (fun L2 hL2 => ?_)
        refine f_goto rfl ?_
        rw [show wsB m k 4 = false by unfold wsB; rw [decide_eq_true c1, bI0 c2]; try rfl]
        exact hK5 hc2 _ _ hw2 hm2 (hL2.sel [0, 1, 2, 3, 4, 5] rfl)
      · have c2 : ¬ ((bI (cd0 m 4 k) : Int) = (0 : Int)) := c2
        refine f_il 1 rfl hL rfl ?_
        refine f_s [fi (1), fi (b)] rfl rfl ?_
        refine f_il 0 rfl hL rfl ?_
        refine b_ishl rfl ?_
        refine b_ior rfl ?_
        refine f_ist [(4, fi (iO (b) (iS (1) (4)))), (5, fi (4)), (0, .ref 38), (1, .ref 9), (2, .ref 3), (3, fi (k))] rfl (by decide) hL rfl (fun L3 hL3 => ?_)
        refine f_inc 1 [(5, fi (5)), (4, fi (iO (b) (iS (1) (4)))), (0, .ref 38), (1, .ref 9), (2, .ref 3), (3, fi (k))] rfl (by decide) hL3 rfl rfl (fun L4 hL4 => ?_)
        refine f_goto rfl ?_
        rw [show wsB m k 4 = true by unfold wsB; rw [decide_eq_true c1, bI1 c2]; try rfl]
        exact hK5 hc2 _ _ hw2 hm2 (hL4.sel [0, 1, 2, 3, 4, 5] rfl)
  have hK3 : ∀ (hc : ev_H) (b : Int) (L : ev_L), y_in yGw hc → gi hc = m → f_L L [(5, fi (3)), (4, fi (b)), (0, .ref 38), (1, .ref 9), (2, .ref 3), (3, fi (k))] → x_W none (1, 0, 6, 3, 3, 3, 69, 0, 0, ev_t157) 6 L [] hc 0 0 (fun r' h' => r' = some (fi (bS (wsB m k 4) (iS 1 4) (bS (wsB m k 3) (iS 1 3) (b)))) ∧ y_in yGw h' ∧ gi h' = m) := fun hc b L hw hm hL => by
    refine f_il 0 rfl hL rfl ?_
    refine f_s [fi (5), fi (3)] rfl rfl ?_
    refine f_ic rfl (by decide) (by decide) (fun c_9 => absurd (show (5 : Int) ≤ (3 : Int) from c_9) (by decide)) (fun _ => ?_)
    refine f_aln 3 rfl hL rfl ?_
    refine f_il 0 rfl hL rfl ?_
    refine f_iln 5 rfl hL rfl ?_
    refine m_k1 (t64_9 (x := 3) hn hp (by decide) (by omega)) hw hm rfl rfl rfl (m_ar so9 hw rfl) rfl (fun hc3 hw3 hm3 => ?_)
    refine f_if rfl (bI_r _) (fun c1 => ?_) (fun c1 => ?_)
    · have c1 : (bI (decide ((0 ≤ k ∧ k < m 3 5) ∧ ¬ ((0 ≤ (3 : Int) ∧ (3 : Int) < m 3 6) ∧ iA (iR (m 9 5) ((3 : Int))) (1) = 1) ∧ iA (iR (ft m (3 : Int)) (k)) (1) = 1)) : Int) = (0 : Int) := c1
      have c1 : ¬ ((0 ≤ k ∧ k < m 3 5) ∧ ¬ ((0 ≤ (3 : Int) ∧ (3 : Int) < m 3 6) ∧ iA (iR (m 9 5) ((3 : Int))) (1) = 1) ∧ iA (iR (ft m (3 : Int)) (k)) (1) = 1) := bI_f c1
      refine f_inc 0 [(5, fi (4)), (4, fi (b)), (0, .ref 38), (1, .ref 9), (2, .ref 3), (3, fi (k))] rfl (by decide) hL rfl rfl (fun L5 hL5 => ?_)
      refine f_goto rfl ?_
      rw [show wsB m k 3 = false by unfold wsB; rw [decide_eq_false c1, Bool.false_and]; try rfl]
      exact hK4 hc3 _ _ hw3 hm3 (hL5.sel [0, 1, 2, 3, 4, 5] rfl)
    · have c1 : ¬ ((bI (decide ((0 ≤ k ∧ k < m 3 5) ∧ ¬ ((0 ≤ (3 : Int) ∧ (3 : Int) < m 3 6) ∧ iA (iR (m 9 5) ((3 : Int))) (1) = 1) ∧ iA (iR (ft m (3 : Int)) (k)) (1) = 1)) : Int) = (0 : Int)) := c1
      have c1 : (0 ≤ k ∧ k < m 3 5) ∧ ¬ ((0 ≤ (3 : Int) ∧ (3 : Int) < m 3 6) ∧ iA (iR (m 9 5) ((3 : Int))) (1) = 1) ∧ iA (iR (ft m (3 : Int)) (k)) (1) = 1 := bI_t c1
      refine f_aln 2 rfl hL rfl ?_
      refine f_aln 4 rfl hL rfl ?_
      refine f_il 0 rfl hL rfl ?_
      refine f_iln 5 rfl hL rfl ?_
      refine m_k1 (t156 (x := 3) (k := k) hp (by decide) k1) hw3 hm3 rfl rfl rfl (m_ar so38 hw3 rfl) rfl (fun hc4 hw4 hm4 => ?_)
      refine f_if rfl (bI_r _) (fun c2 => ?_) (fun c2 => ?_)
      · have c2 : (bI (cd0 m 3 k) : Int) = (0 : Int) := c2
        refine f_inc 0 [(5, fi (4)), (4, fi (b)), (0, .ref 38), (1, .ref 9), (2, .ref 3), (3, fi (k))] rfl (by decide) hL rfl rfl (fun L6 hL6 => ?_)
        refine f_goto rfl ?_
        rw [show wsB m k 3 = false by unfold wsB; rw [decide_eq_true c1, bI0 c2]; try rfl]
        exact hK4 hc4 _ _ hw4 hm4 (hL6.sel [0, 1, 2, 3, 4, 5] rfl)
      · have c2 : ¬ ((bI (cd0 m 3 k) : Int) = (0 : Int)) := c2
        refine f_il 1 rfl hL rfl ?_
        refine f_s [fi (1), fi (b)] rfl rfl ?_
        refine f_il 0 rfl hL rfl ?_
        refine b_ishl rfl ?_
        refine b_ior rfl ?_
        refine f_ist [(4, fi (iO (b) (iS (1) (3)))), (5, fi (3)), (0, .ref 38), (1, .ref 9), (2, .ref 3), (3, fi (k))] rfl (by decide) hL rfl (fun L7 hL7 => ?_)
        refine f_inc 1 [(5, fi (4)), (4, fi (iO (b) (iS (1) (3)))), (0, .ref 38), (1, .ref 9), (2, .ref 3), (3, fi (k))] rfl (by decide) hL7 rfl rfl (fun L8 hL8 => ?_)
        refine f_goto rfl ?_
        rw [show wsB m k 3 = true by unfold wsB; rw [decide_eq_true c1, bI1 c2]; try rfl]
        exact hK4 hc4 _ _ hw4 hm4 (hL8.sel [0, 1, 2, 3, 4, 5] rfl)
  have hK2 : ∀ (hc : ev_H) (b : Int) (L : ev_L), y_in yGw hc → gi hc = m → f_L L [(5, fi (2)), (4, fi (b)), (0, .ref 38), (1, .ref 9), (2, .ref 3), (3, fi (k))] → x_W none (1, 0, 6, 3, 3, 3, 69, 0, 0, ev_t157) 6 L [] hc 0 0 (fun r' h' => r' = some (fi (bS (wsB m k 4) (iS 1 4) (bS (wsB m k 3) (iS 1 3) (bS (wsB m k 2) (iS 1 2) (b))))) ∧ y_in yGw h' ∧ gi h' = m) := fun hc b L hw hm hL => by
    refine f_il 0 rfl hL rfl ?_
    refine f_s [fi (5), fi (2)] rfl rfl ?_
    refine f_ic rfl (by decide) (by decide) (fun c_9 => absurd (show (5 : Int) ≤ (2 : Int) from c_9) (by decide)) (fun _ => ?_)
    refine f_aln 3 rfl hL rfl ?_
    refine f_il 0 rfl hL rfl ?_
    refine f_iln 5 rfl hL rfl ?_
    refine m_k1 (t64_9 (x := 2) hn hp (by decide) (by omega)) hw hm rfl rfl rfl (m_ar so9 hw rfl) rfl (fun hc5 hw5 hm5 => ?_)
    refine f_if rfl (bI_r _) (fun c1 => ?_) (fun c1 => ?_)
    · have c1 : (bI (decide ((0 ≤ k ∧ k < m 3 5) ∧ ¬ ((0 ≤ (2 : Int) ∧ (2 : Int) < m 3 6) ∧ iA (iR (m 9 5) ((2 : Int))) (1) = 1) ∧ iA (iR (ft m (2 : Int)) (k)) (1) = 1)) : Int) = (0 : Int) := c1
      have c1 : ¬ ((0 ≤ k ∧ k < m 3 5) ∧ ¬ ((0 ≤ (2 : Int) ∧ (2 : Int) < m 3 6) ∧ iA (iR (m 9 5) ((2 : Int))) (1) = 1) ∧ iA (iR (ft m (2 : Int)) (k)) (1) = 1) := bI_f c1
      refine f_inc 0 [(5, fi (3)), (4, fi (b)), (0, .ref 38), (1, .ref 9), (2, .ref 3), (3, fi (k))] rfl (by decide) hL rfl rfl (fun L9 hL9 => ?_)
      refine f_goto rfl ?_
      rw [show wsB m k 2 = false by unfold wsB; rw [decide_eq_false c1, Bool.false_and]; try rfl]
      exact hK3 hc5 _ _ hw5 hm5 (hL9.sel [0, 1, 2, 3, 4, 5] rfl)
    · have c1 : ¬ ((bI (decide ((0 ≤ k ∧ k < m 3 5) ∧ ¬ ((0 ≤ (2 : Int) ∧ (2 : Int) < m 3 6) ∧ iA (iR (m 9 5) ((2 : Int))) (1) = 1) ∧ iA (iR (ft m (2 : Int)) (k)) (1) = 1)) : Int) = (0 : Int)) := c1
      have c1 : (0 ≤ k ∧ k < m 3 5) ∧ ¬ ((0 ≤ (2 : Int) ∧ (2 : Int) < m 3 6) ∧ iA (iR (m 9 5) ((2 : Int))) (1) = 1) ∧ iA (iR (ft m (2 : Int)) (k)) (1) = 1 := bI_t c1
      refine f_aln 2 rfl hL rfl ?_
      refine f_aln 4 rfl hL rfl ?_
      refine f_il 0 rfl hL rfl ?_
      refine f_iln 5 rfl hL rfl ?_
      refine m_k1 (t156 (x := 2) (k := k) hp (by decide) k1) hw5 hm5 rfl rfl rfl (m_ar so38 hw5 rfl) rfl (fun hc6 hw6 hm6 => ?_)
      refine f_if rfl (bI_r _) (fun c2 => ?_) (fun c2 => ?_)
      · have c2 : (bI (cd0 m 2 k) : Int) = (0 : Int) := c2
        refine f_inc 0 [(5, fi (3)), (4, fi (b)), (0, .ref 38), (1, .ref 9), (2, .ref 3), (3, fi (k))] rfl (by decide) hL rfl rfl (fun L10 hL10 => ?_)
        refine f_goto rfl ?_
        rw [show wsB m k 2 = false by unfold wsB; rw [decide_eq_true c1, bI0 c2]; try rfl]
        exact hK3 hc6 _ _ hw6 hm6 (hL10.sel [0, 1, 2, 3, 4, 5] rfl)
      · have c2 : ¬ ((bI (cd0 m 2 k) : Int) = (0 : Int)) := c2
        refine f_il 1 rfl hL rfl ?_
        refine f_s [fi (1), fi (b)] rfl rfl ?_
        refine f_il 0 rfl hL rfl ?_
        refine b_ishl rfl ?_
        refine b_ior rfl ?_
        refine f_ist [(4, fi (iO (b) (iS (1) (2)))), (5, fi (2)), (0, .ref 38), (1, .ref 9), (2, .ref 3), (3, fi (k))] rfl (by decide) hL rfl (fun L11 hL11 => ?_)
        refine f_inc 1 [(5, fi (3)), (4, fi (iO (b) (iS (1) (2)))), (0, .ref 38), (1, .ref 9), (2, .ref 3), (3, fi (k))] rfl (by decide) hL11 rfl rfl (fun L12 hL12 => ?_)
        refine f_goto rfl ?_
        rw [show wsB m k 2 = true by unfold wsB; rw [decide_eq_true c1, bI1 c2]; try rfl]
        exact hK3 hc6 _ _ hw6 hm6 (hL12.sel [0, 1, 2, 3, 4, 5] rfl)
  have hK1 : ∀ (hc : ev_H) (b : Int) (L : ev_L), y_in yGw hc → gi hc = m → f_L L [(5, fi (1)), (4, fi (b)), (0, .ref 38), (1, .ref 9), (2, .ref 3), (3, fi (k))] → x_W none (1, 0, 6, 3, 3, 3, 69, 0, 0, ev_t157) 6 L [] hc 0 0 (fun r' h' => r' = some (fi (bS (wsB m k 4) (iS 1 4) (bS (wsB m k 3) (iS 1 3) (bS (wsB m k 2) (iS 1 2) (bS (wsB m k 1) (iS 1 1) (b)))))) ∧ y_in yGw h' ∧ gi h' = m) := fun hc b L hw hm hL => by
    refine f_il 0 rfl hL rfl ?_
    refine f_s [fi (5), fi (1)] rfl rfl ?_
    refine f_ic rfl (by decide) (by decide) (fun c_9 => absurd (show (5 : Int) ≤ (1 : Int) from c_9) (by decide)) (fun _ => ?_)
    refine f_aln 3 rfl hL rfl ?_
    refine f_il 0 rfl hL rfl ?_
    refine f_iln 5 rfl hL rfl ?_
    refine m_k1 (t64_9 (x := 1) hn hp (by decide) (by omega)) hw hm rfl rfl rfl (m_ar so9 hw rfl) rfl (fun hc7 hw7 hm7 => ?_)
    refine f_if rfl (bI_r _) (fun c1 => ?_) (fun c1 => ?_)
    · have c1 : (bI (decide ((0 ≤ k ∧ k < m 3 5) ∧ ¬ ((0 ≤ (1 : Int) ∧ (1 : Int) < m 3 6) ∧ iA (iR (m 9 5) ((1 : Int))) (1) = 1) ∧ iA (iR (ft m (1 : Int)) (k)) (1) = 1)) : Int) = (0 : Int) := c1
      have c1 : ¬ ((0 ≤ k ∧ k < m 3 5) ∧ ¬ ((0 ≤ (1 : Int) ∧ (1 : Int) < m 3 6) ∧ iA (iR (m 9 5) ((1 : Int))) (1) = 1) ∧ iA (iR (ft m (1 : Int)) (k)) (1) = 1) := bI_f c1
      refine f_inc 0 [(5, fi (2)), (4, fi (b)), (0, .ref 38), (1, .ref 9), (2, .ref 3), (3, fi (k))] rfl (by decide) hL rfl rfl (fun L13 hL13 => ?_)
      refine f_goto rfl ?_
      rw [show wsB m k 1 = false by unfold wsB; rw [decide_eq_false c1, Bool.false_and]; try rfl]
      exact hK2 hc7 _ _ hw7 hm7 (hL13.sel [0, 1, 2, 3, 4, 5] rfl)
    · have c1 : ¬ ((bI (decide ((0 ≤ k ∧ k < m 3 5) ∧ ¬ ((0 ≤ (1 : Int) ∧ (1 : Int) < m 3 6) ∧ iA (iR (m 9 5) ((1 : Int))) (1) = 1) ∧ iA (iR (ft m (1 : Int)) (k)) (1) = 1)) : Int) = (0 : Int)) := c1
      have c1 : (0 ≤ k ∧ k < m 3 5) ∧ ¬ ((0 ≤ (1 : Int) ∧ (1 : Int) < m 3 6) ∧ iA (iR (m 9 5) ((1 : Int))) (1) = 1) ∧ iA (iR (ft m (1 : Int)) (k)) (1) = 1 := bI_t c1
      refine f_aln 2 rfl hL rfl ?_
      refine f_aln 4 rfl hL rfl ?_
      refine f_il 0 rfl hL rfl ?_
      refine f_iln 5 rfl hL rfl ?_
      refine m_k1 (t156 (x := 1) (k := k) hp (by decide) k1) hw7 hm7 rfl rfl rfl (m_ar so38 hw7 rfl) rfl (fun hc8 hw8 hm8 => ?_)
      refine f_if rfl (bI_r _) (fun c2 => ?_) (fun c2 => ?_)
      · have c2 : (bI (cd0 m 1 k) : Int) = (0 : Int) := c2
        refine f_inc 0 [(5, fi (2)), (4, fi (b)), (0, .ref 38), (1, .ref 9), (2, .ref 3), (3, fi (k))] rfl (by decide) hL rfl rfl (fun L14 hL14 => ?_)
        refine f_goto rfl ?_
        rw [show wsB m k 1 = false by unfold wsB; rw [decide_eq_true c1, bI0 c2]; try rfl]
        exact hK2 hc8 _ _ hw8 hm8 (hL14.sel [0, 1, 2, 3, 4, 5] rfl)
      · have c2 : ¬ ((bI (cd0 m 1 k) : Int) = (0 : Int)) := c2
        refine f_il 1 rfl hL rfl ?_
        refine f_s [fi (1), fi (b)] rfl rfl ?_
        refine f_il 0 rfl hL rfl ?_
        refine b_ishl rfl ?_
        refine b_ior rfl ?_
        refine f_ist [(4, fi (iO (b) (iS (1) (1)))), (5, fi (1)), (0, .ref 38), (1, .ref 9), (2, .ref 3), (3, fi (k))] rfl (by decide) hL rfl (fun L15 hL15 => ?_)
        refine f_inc 1 [(5, fi (2)), (4, fi (iO (b) (iS (1) (1)))), (0, .ref 38), (1, .ref 9), (2, .ref 3), (3, fi (k))] rfl (by decide) hL15 rfl rfl (fun L16 hL16 => ?_)
        refine f_goto rfl ?_
        rw [show wsB m k 1 = true by unfold wsB; rw [decide_eq_true c1, bI1 c2]; try rfl]
        exact hK2 hc8 _ _ hw8 hm8 (hL16.sel [0, 1, 2, 3, 4, 5] rfl)
  have hK0 : ∀ (hc : ev_H) (b : Int) (L : ev_L), y_in yGw hc → gi hc = m → f_L L [(5, fi (0)), (4, fi (b)), (0, .ref 38), (1, .ref 9), (2, .ref 3), (3, fi (k))] → x_W none (1, 0, 6, 3, 3, 3, 69, 0, 0, ev_t157) 6 L [] hc 0 0 (fun r' h' => r' = some (fi (bS (wsB m k 4) (iS 1 4) (bS (wsB m k 3) (iS 1 3) (bS (wsB m k 2) (iS 1 2) (bS (wsB m k 1) (iS 1 1) (bS (wsB m k 0) (iS 1 0) (b))))))) ∧ y_in yGw h' ∧ gi h' = m) := fun hc b L hw hm hL => by
    refine f_il 0 rfl hL rfl ?_
    refine f_s [fi (5), fi (0)] rfl rfl ?_
    refine f_ic rfl (by decide) (by decide) (fun c_9 => absurd (show (5 : Int) ≤ (0 : Int) from c_9) (by decide)) (fun _ => ?_)
    refine f_aln 3 rfl hL rfl ?_
    refine f_il 0 rfl hL rfl ?_
    refine f_iln 5 rfl hL rfl ?_
    refine m_k1 (t64_9 (x := 0) hn hp (by decide) (by omega)) hw hm rfl rfl rfl (m_ar so9 hw rfl) rfl (fun hc9 hw9 hm9 => ?_)
    refine f_if rfl (bI_r _) (fun c1 => ?_) (fun c1 => ?_)
    · have c1 : (bI (decide ((0 ≤ k ∧ k < m 3 5) ∧ ¬ ((0 ≤ (0 : Int) ∧ (0 : Int) < m 3 6) ∧ iA (iR (m 9 5) ((0 : Int))) (1) = 1) ∧ iA (iR (ft m (0 : Int)) (k)) (1) = 1)) : Int) = (0 : Int) := c1
      have c1 : ¬ ((0 ≤ k ∧ k < m 3 5) ∧ ¬ ((0 ≤ (0 : Int) ∧ (0 : Int) < m 3 6) ∧ iA (iR (m 9 5) ((0 : Int))) (1) = 1) ∧ iA (iR (ft m (0 : Int)) (k)) (1) = 1) := bI_f c1
      refine f_inc 0 [(5, fi (1)), (4, fi (b)), (0, .ref 38), (1, .ref 9), (2, .ref 3), (3, fi (k))] rfl (by decide) hL rfl rfl (fun L17 hL17 => ?_)
      refine f_goto rfl ?_
      rw [show wsB m k 0 = false by unfold wsB; rw [decide_eq_false c1, Bool.false_and]; try rfl]
      exact hK1 hc9 _ _ hw9 hm9 (hL17.sel [0, 1, 2, 3, 4, 5] rfl)
    · have c1 : ¬ ((bI (decide ((0 ≤ k ∧ k < m 3 5) ∧ ¬ ((0 ≤ (0 : Int) ∧ (0 : Int) < m 3 6) ∧ iA (iR (m 9 5) ((0 : Int))) (1) = 1) ∧ iA (iR (ft m (0 : Int)) (k)) (1) = 1)) : Int) = (0 : Int)) := c1
      have c1 : (0 ≤ k ∧ k < m 3 5) ∧ ¬ ((0 ≤ (0 : Int) ∧ (0 : Int) < m 3 6) ∧ iA (iR (m 9 5) ((0 : Int))) (1) = 1) ∧ iA (iR (ft m (0 : Int)) (k)) (1) = 1 := bI_t c1
      refine f_aln 2 rfl hL rfl ?_
      refine f_aln 4 rfl hL rfl ?_
      refine f_il 0 rfl hL rfl ?_
      refine f_iln 5 rfl hL rfl ?_
      refine m_k1 (t156 (x := 0) (k := k) hp (by decide) k1) hw9 hm9 rfl rfl rfl (m_ar so38 hw9 rfl) rfl (fun hc10 hw10 hm10 => ?_)
      refine f_if rfl (bI_r _) (fun c2 => ?_) (fun c2 => ?_)
      · have c2 : (bI (cd0 m 0 k) : Int) = (0 : Int) := c2
        refine f_inc 0 [(5, fi (1)), (4, fi (b)), (0, .ref 38), (1, .ref 9), (2, .ref 3), (3, fi (k))] rfl (by decide) hL rfl rfl (fun L18 hL18 => ?_)
        refine f_goto rfl ?_
        rw [show wsB m k 0 = false by unfold wsB; rw [decide_eq_true c1, bI0 c2]; try rfl]
        exact hK1 hc10 _ _ hw10 hm10 (hL18.sel [0, 1, 2, 3, 4, 5] rfl)
      · have c2 : ¬ ((bI (cd0 m 0 k) : Int) = (0 : Int)) := c2
        refine f_il 1 rfl hL rfl ?_
        refine f_s [fi (1), fi (b)] rfl rfl ?_
        refine f_il 0 rfl hL rfl ?_
        refine b_ishl rfl ?_
        refine b_ior rfl ?_
        refine f_ist [(4, fi (iO (b) (iS (1) (0)))), (5, fi (0)), (0, .ref 38), (1, .ref 9), (2, .ref 3), (3, fi (k))] rfl (by decide) hL rfl (fun L19 hL19 => ?_)
        refine f_inc 1 [(5, fi (1)), (4, fi (iO (b) (iS (1) (0)))), (0, .ref 38), (1, .ref 9), (2, .ref 3), (3, fi (k))] rfl (by decide) hL19 rfl rfl (fun L20 hL20 => ?_)
        refine f_goto rfl ?_
        rw [show wsB m k 0 = true by unfold wsB; rw [decide_eq_true c1, bI1 c2]; try rfl]
        exact hK1 hc10 _ _ hw10 hm10 (hL20.sel [0, 1, 2, 3, 4, 5] rfl)
  refine f_s [fi (0)] rfl rfl ?_
  refine f_ist [(4, fi (0)), (0, .ref 38), (1, .ref 9), (2, .ref 3), (3, fi (k))] rfl (by decide) hL rfl (fun L21 hL21 => ?_)
  refine f_s [fi (0)] rfl rfl ?_
  refine f_ist [(5, fi (0)), (4, fi (0)), (0, .ref 38), (1, .ref 9), (2, .ref 3), (3, fi (k))] rfl (by decide) hL21 rfl (fun L22 hL22 => ?_)
  exact hK0 hc 0 _ hw hm (hL22.sel [0, 1, 2, 3, 4, 5] rfl))
theorem t158_un {m : Nat → Nat → Int} (hn : 0 ≤ m 3 5 ∧ m 3 5 ≤ 4) {k : Int} (rk : -2147483648 ≤ k ∧ k ≤ 2147483647) (h0 : ¬ (0 ≤ k ∧ k < m 3 5)) : h_M 158 [.ref 0, fi (k)] m (some (fi (-1))) m := h_M_of (R := ev_r158) rfl (fun hc hw hm => by
  have hL : f_L (lv_args 0 [.ref 0, fi (k)]) [(0, .ref 0), (1, fi (k))] := f_L_of rfl
  generalize lv_args 0 [.ref 0, fi (k)] = L at hL
  show x_W none (1, 0, 2, 1, 10, 4, 94, 0, 0, ev_t158) 0 L [] hc 0 0 _
  have hR := gi_R hm
  refine f_aln 0 rfl hL rfl ?_
  refine m_gfr so0 rfl hw rfl (by decide) ?_
  refine f_iln 1 rfl hL rfl ?_
  refine m_k1 (t40 hn.2 rk) hw hm rfl rfl rfl (m_ar so3 hw rfl) rfl (fun hc1 hw1 hm1 => ?_)
  refine f_if rfl (bI_r _) (fun _ => ?_) (fun c_9 => absurd (show (bI (decide (0 ≤ k ∧ k < m 3 5)) : Int) = (0 : Int) from (by rw [decide_eq_false h0]; rfl)) c_9)
  refine f_s [fi (-1)] rfl rfl ?_
  exact f_ret1 rfl ⟨rfl, hw1, hm1⟩)
theorem t158_ok {m : Nat → Nat → Int} (hn : 0 ≤ m 3 5 ∧ m 3 5 ≤ 4) (hp : 0 ≤ m 3 6 ∧ m 3 6 ≤ 5) {k : Int} (rk : -2147483648 ≤ k ∧ k ≤ 2147483647) (h0 : 0 ≤ k ∧ k < m 3 5) : h_M 158 [.ref 0, fi (k)] m (some (fi (ws m k))) m := h_M_of (R := ev_r158) rfl (fun hc hw hm => by
  have hL : f_L (lv_args 0 [.ref 0, fi (k)]) [(0, .ref 0), (1, fi (k))] := f_L_of rfl
  generalize lv_args 0 [.ref 0, fi (k)] = L at hL
  show x_W none (1, 0, 2, 1, 10, 4, 94, 0, 0, ev_t158) 0 L [] hc 0 0 _
  have hR := gi_R hm
  refine f_aln 0 rfl hL rfl ?_
  refine m_gfr so0 rfl hw rfl (by decide) ?_
  refine f_iln 1 rfl hL rfl ?_
  refine m_k1 (t40 hn.2 rk) hw hm rfl rfl rfl (m_ar so3 hw rfl) rfl (fun hc1 hw1 hm1 => ?_)
  refine f_if rfl (bI_r _) (fun c_9 => absurd (show (bI (decide (0 ≤ k ∧ k < m 3 5)) : Int) = (0 : Int) from c_9) (by rw [decide_eq_true h0]; decide)) (fun _ => ?_)
  refine f_aln 0 rfl hL rfl ?_
  refine m_gfr so0 rfl hw1 rfl (by decide) ?_
  refine f_aln 0 rfl hL rfl ?_
  refine m_gfr so0 rfl hw1 rfl (by decide) ?_
  refine f_aln 0 rfl hL rfl ?_
  refine m_gfr so0 rfl hw1 rfl (by decide) ?_
  refine f_iln 1 rfl hL rfl ?_
  refine m_k1 (t157 hn hp (by omega)) hw1 hm1 rfl rfl rfl (m_ar so38 hw1 rfl) rfl (fun hc2 hw2 hm2 => ?_)
  refine f_goto rfl ?_
  exact f_ret1 rfl ⟨rfl, hw2, hm2⟩)
def se1 (m : Nat → Nat → Int) (p t : Int) (e : Nat) (a : Bool) : Bool := if (e : Int) < m 55 21 then a || decide (m 67 e = p ∧ m 68 e = t) else a
set_option maxHeartbeats 1000000 in
theorem t159 {m : Nat → Nat → Int} (ht : 0 ≤ m 55 21 ∧ m 55 21 ≤ 6) {p : Int} (rp : -2147483648 ≤ p ∧ p ≤ 2147483647) {t : Int} (rt : -2147483648 ≤ t ∧ t ≤ 2147483647) : h_M 159 [.ref 55, fi (p), fi (t)] m (some (fi (bI (se1 m p t 5 (se1 m p t 4 (se1 m p t 3 (se1 m p t 2 (se1 m p t 1 (se1 m p t 0 (false)))))))))) m := h_M_of (R := ev_r159) rfl (fun hc hw hm => by
  have hL : f_L (lv_args 0 [.ref 55, fi (p), fi (t)]) [(0, .ref 55), (1, fi (p)), (2, fi (t))] := f_L_of rfl
  generalize lv_args 0 [.ref 55, fi (p), fi (t)] = L at hL
  show x_W none (2, 0, 5, 2, 11, 0, 0, 0, 0, ev_t159) 0 L [] hc 0 0 _
  have hR := gi_R hm
  have hK6_0 : ∀ (hc : ev_H) (L : ev_L), y_in yGw hc → gi hc = m → f_L L [(4, fi (6)), (3, fi (0)), (0, .ref 55), (1, fi (p)), (2, fi (t))] → x_W none (2, 0, 5, 2, 11, 0, 0, 0, 0, ev_t159) 5 L [] hc 0 0 (fun r' h' => r' = some (fi (bI (false))) ∧ y_in yGw h' ∧ gi h' = m) := fun hc L hw hm hL => by
    refine f_il 0 rfl hL rfl ?_
    refine f_aln 2 rfl hL rfl ?_
    refine m_gfi so55 (m 55 21) rfl hw hm rfl rfl ?_
    refine f_ic rfl (by decide) (by omega) (fun _ => ?_) (fun c_9 => absurd (show (m 55 21 : Int) ≤ (6 : Int) from (by omega)) c_9)
    refine f_iln 1 rfl hL rfl ?_
    exact f_ret2 rfl (Or.inl rfl) ⟨rfl, hw, hm⟩
  have hK6_1 : ∀ (hc : ev_H) (L : ev_L), y_in yGw hc → gi hc = m → f_L L [(4, fi (6)), (3, fi (1)), (0, .ref 55), (1, fi (p)), (2, fi (t))] → x_W none (2, 0, 5, 2, 11, 0, 0, 0, 0, ev_t159) 5 L [] hc 0 0 (fun r' h' => r' = some (fi (bI (true))) ∧ y_in yGw h' ∧ gi h' = m) := fun hc L hw hm hL => by
    refine f_il 0 rfl hL rfl ?_
    refine f_aln 2 rfl hL rfl ?_
    refine m_gfi so55 (m 55 21) rfl hw hm rfl rfl ?_
    refine f_ic rfl (by decide) (by omega) (fun _ => ?_) (fun c_9 => absurd (show (m 55 21 : Int) ≤ (6 : Int) from (by omega)) c_9)
    refine f_iln 1 rfl hL rfl ?_
    exact f_ret2 rfl (Or.inr rfl) ⟨rfl, hw, hm⟩
  have hK5_0 : ∀ (hc : ev_H) (L : ev_L), y_in yGw hc → gi hc = m → f_L L [(4, fi (5)), (3, fi (0)), (0, .ref 55), (1, fi (p)), (2, fi (t))] → x_W none (2, 0, 5, 2, 11, 0, 0, 0, 0, ev_t159) 5 L [] hc 0 0 (fun r' h' => r' = some (fi (bI (se1 m p t 5 (false)))) ∧ y_in yGw h' ∧ gi h' = m) := fun hc L hw hm hL => by
    refine f_il 0 rfl hL rfl ?_
    refine f_aln 2 rfl hL rfl ?_
    refine m_gfi so55 (m 55 21) rfl hw hm rfl rfl ?_
    refine f_ic rfl (by decide) (by omega) (fun c1 => ?_) (fun c1 => ?_)
    · have c1 : (m 55 21 : Int) ≤ (5 : Int) := c1
      have e8 : se1 m p t 5 (false) = false := by unfold se1; rw [if_neg (by omega)]
      rw [e8]
      refine f_iln 1 rfl hL rfl ?_
      exact f_ret2 rfl (Or.inl rfl) ⟨rfl, hw, hm⟩
    · have c1 : ¬ ((m 55 21 : Int) ≤ (5 : Int)) := c1
      refine f_iln 1 rfl hL rfl ?_
      refine f_if rfl (by decide) (fun c_9 => absurd (show ¬ (0 : Int) = (0 : Int) from c_9) (by decide)) (fun _ => ?_)
      refine f_aln 2 rfl hL rfl ?_
      refine m_gfr so55 rfl hw rfl (by decide) ?_
      refine f_il 0 rfl hL rfl ?_
      refine m_ia sa67 (m 67 5) rfl hw hm (by omega) (by omega) (by decide) rfl ?_
      refine f_iln 3 rfl hL rfl ?_
      refine f_ic rfl (hR 67 5) rp (fun c2 => ?_) (fun c2 => ?_)
      · have c2 : ¬ (m 67 5 : Int) = (p : Int) := c2
        refine f_s [fi (0)] rfl rfl ?_
        refine f_istn [(3, fi (0)), (4, fi (5)), (0, .ref 55), (1, fi (p)), (2, fi (t))] rfl (by decide) hL rfl (fun L1 hL1 => ?_)
        refine f_inc 1 [(4, fi (6)), (3, fi (0)), (0, .ref 55), (1, fi (p)), (2, fi (t))] rfl (by decide) hL1 rfl rfl (fun L2 hL2 => ?_)
        refine f_goto rfl ?_
        have e9 : se1 m p t 5 false = false := (if_pos (by omega)).trans (by rw [decide_eq_false (fun z => c2 z.1)]; rfl)
        rw [e9]
        exact hK6_0 hc _ hw hm (hL2.sel [0, 1, 2, 3, 4] rfl)
      · have c2 : ¬ (¬ (m 67 5 : Int) = (p : Int)) := c2
        refine f_aln 2 rfl hL rfl ?_
        refine m_gfr so55 rfl hw rfl (by decide) ?_
        refine f_il 0 rfl hL rfl ?_
        refine m_ia sa68 (m 68 5) rfl hw hm (by omega) (by omega) (by decide) rfl ?_
        refine f_iln 4 rfl hL rfl ?_
        refine f_ic rfl (hR 68 5) rt (fun c3 => ?_) (fun c3 => ?_)
        · have c3 : ¬ (m 68 5 : Int) = (t : Int) := c3
          refine f_s [fi (0)] rfl rfl ?_
          refine f_istn [(3, fi (0)), (4, fi (5)), (0, .ref 55), (1, fi (p)), (2, fi (t))] rfl (by decide) hL rfl (fun L3 hL3 => ?_)
          refine f_inc 1 [(4, fi (6)), (3, fi (0)), (0, .ref 55), (1, fi (p)), (2, fi (t))] rfl (by decide) hL3 rfl rfl (fun L4 hL4 => ?_)
          refine f_goto rfl ?_
          have e9 : se1 m p t 5 false = false := (if_pos (by omega)).trans (by rw [decide_eq_false (fun z => c3 z.2)]; rfl)
          rw [e9]
          exact hK6_0 hc _ hw hm (hL4.sel [0, 1, 2, 3, 4] rfl)
        · have c3 : ¬ (¬ (m 68 5 : Int) = (t : Int)) := c3
          refine f_s [fi (1)] rfl rfl ?_
          refine f_goto rfl ?_
          refine f_istn [(3, fi (1)), (4, fi (5)), (0, .ref 55), (1, fi (p)), (2, fi (t))] rfl (by decide) hL rfl (fun L5 hL5 => ?_)
          refine f_inc 1 [(4, fi (6)), (3, fi (1)), (0, .ref 55), (1, fi (p)), (2, fi (t))] rfl (by decide) hL5 rfl rfl (fun L6 hL6 => ?_)
          refine f_goto rfl ?_
          have e9 : se1 m p t 5 false = true := (if_pos (by omega)).trans (by rw [decide_eq_true ⟨by omega, by omega⟩]; rfl)
          rw [e9]
          exact hK6_1 hc _ hw hm (hL6.sel [0, 1, 2, 3, 4] rfl)
  have hK5_1 : ∀ (hc : ev_H) (L : ev_L), y_in yGw hc → gi hc = m → f_L L [(4, fi (5)), (3, fi (1)), (0, .ref 55), (1, fi (p)), (2, fi (t))] → x_W none (2, 0, 5, 2, 11, 0, 0, 0, 0, ev_t159) 5 L [] hc 0 0 (fun r' h' => r' = some (fi (bI (se1 m p t 5 (true)))) ∧ y_in yGw h' ∧ gi h' = m) := fun hc L hw hm hL => by
    refine f_il 0 rfl hL rfl ?_
    refine f_aln 2 rfl hL rfl ?_
    refine m_gfi so55 (m 55 21) rfl hw hm rfl rfl ?_
    refine f_ic rfl (by decide) (by omega) (fun c1 => ?_) (fun c1 => ?_)
    · have c1 : (m 55 21 : Int) ≤ (5 : Int) := c1
      have e8 : se1 m p t 5 (true) = true := by unfold se1; rw [if_neg (by omega)]
      rw [e8]
      refine f_iln 1 rfl hL rfl ?_
      exact f_ret2 rfl (Or.inr rfl) ⟨rfl, hw, hm⟩
    · have c1 : ¬ ((m 55 21 : Int) ≤ (5 : Int)) := c1
      refine f_iln 1 rfl hL rfl ?_
      refine f_if rfl (by decide) (fun _ => ?_) (fun c_9 => absurd (show ¬ (1 : Int) = (0 : Int) from (by decide)) c_9)
      refine f_s [fi (1)] rfl rfl ?_
      refine f_goto rfl ?_
      refine f_istn [(3, fi (1)), (4, fi (5)), (0, .ref 55), (1, fi (p)), (2, fi (t))] rfl (by decide) hL rfl (fun L7 hL7 => ?_)
      refine f_inc 1 [(4, fi (6)), (3, fi (1)), (0, .ref 55), (1, fi (p)), (2, fi (t))] rfl (by decide) hL7 rfl rfl (fun L8 hL8 => ?_)
      refine f_goto rfl ?_
      have e9 : se1 m p t 5 true = true := (if_pos (by omega)).trans (by rfl)
      rw [e9]
      exact hK6_1 hc _ hw hm (hL8.sel [0, 1, 2, 3, 4] rfl)
  have hK4_0 : ∀ (hc : ev_H) (L : ev_L), y_in yGw hc → gi hc = m → f_L L [(4, fi (4)), (3, fi (0)), (0, .ref 55), (1, fi (p)), (2, fi (t))] → x_W none (2, 0, 5, 2, 11, 0, 0, 0, 0, ev_t159) 5 L [] hc 0 0 (fun r' h' => r' = some (fi (bI (se1 m p t 5 (se1 m p t 4 (false))))) ∧ y_in yGw h' ∧ gi h' = m) := fun hc L hw hm hL => by
    refine f_il 0 rfl hL rfl ?_
    refine f_aln 2 rfl hL rfl ?_
    refine m_gfi so55 (m 55 21) rfl hw hm rfl rfl ?_
    refine f_ic rfl (by decide) (by omega) (fun c1 => ?_) (fun c1 => ?_)
    · have c1 : (m 55 21 : Int) ≤ (4 : Int) := c1
      have e8 : se1 m p t 5 (se1 m p t 4 (false)) = false := by unfold se1; rw [if_neg (by omega), if_neg (by omega)]
      rw [e8]
      refine f_iln 1 rfl hL rfl ?_
      exact f_ret2 rfl (Or.inl rfl) ⟨rfl, hw, hm⟩
    · have c1 : ¬ ((m 55 21 : Int) ≤ (4 : Int)) := c1
      refine f_iln 1 rfl hL rfl ?_
      refine f_if rfl (by decide) (fun c_9 => absurd (show ¬ (0 : Int) = (0 : Int) from c_9) (by decide)) (fun _ => ?_)
      refine f_aln 2 rfl hL rfl ?_
      refine m_gfr so55 rfl hw rfl (by decide) ?_
      refine f_il 0 rfl hL rfl ?_
      refine m_ia sa67 (m 67 4) rfl hw hm (by omega) (by omega) (by decide) rfl ?_
      refine f_iln 3 rfl hL rfl ?_
      refine f_ic rfl (hR 67 4) rp (fun c2 => ?_) (fun c2 => ?_)
      · have c2 : ¬ (m 67 4 : Int) = (p : Int) := c2
        refine f_s [fi (0)] rfl rfl ?_
        refine f_istn [(3, fi (0)), (4, fi (4)), (0, .ref 55), (1, fi (p)), (2, fi (t))] rfl (by decide) hL rfl (fun L9 hL9 => ?_)
        refine f_inc 1 [(4, fi (5)), (3, fi (0)), (0, .ref 55), (1, fi (p)), (2, fi (t))] rfl (by decide) hL9 rfl rfl (fun L10 hL10 => ?_)
        refine f_goto rfl ?_
        have e9 : se1 m p t 4 false = false := (if_pos (by omega)).trans (by rw [decide_eq_false (fun z => c2 z.1)]; rfl)
        rw [e9]
        exact hK5_0 hc _ hw hm (hL10.sel [0, 1, 2, 3, 4] rfl)
      · have c2 : ¬ (¬ (m 67 4 : Int) = (p : Int)) := c2
        refine f_aln 2 rfl hL rfl ?_
        refine m_gfr so55 rfl hw rfl (by decide) ?_
        refine f_il 0 rfl hL rfl ?_
        refine m_ia sa68 (m 68 4) rfl hw hm (by omega) (by omega) (by decide) rfl ?_
        refine f_iln 4 rfl hL rfl ?_
        refine f_ic rfl (hR 68 4) rt (fun c3 => ?_) (fun c3 => ?_)
        · have c3 : ¬ (m 68 4 : Int) = (t : Int) := c3
          refine f_s [fi (0)] rfl rfl ?_
          refine f_istn [(3, fi (0)), (4, fi (4)), (0, .ref 55), (1, fi (p)), (2, fi (t))] rfl (by decide) hL rfl (fun L11 hL11 => ?_)
          refine f_inc 1 [(4, fi (5)), (3, fi (0)), (0, .ref 55), (1, fi (p)), (2, fi (t))] rfl (by decide) hL11 rfl rfl (fun L12 hL12 => ?_)
          refine f_goto rfl ?_
          have e9 : se1 m p t 4 false = false := (if_pos (by omega)).trans (by rw [decide_eq_false (fun z => c3 z.2)]; rfl)
          rw [e9]
          exact hK5_0 hc _ hw hm (hL12.sel [0, 1, 2, 3, 4] rfl)
        · have c3 : ¬ (¬ (m 68 4 : Int) = (t : Int)) := c3
          refine f_s [fi (1)] rfl rfl ?_
          refine f_goto rfl ?_
          refine f_istn [(3, fi (1)), (4, fi (4)), (0, .ref 55), (1, fi (p)), (2, fi (t))] rfl (by decide) hL rfl (fun L13 hL13 => ?_)
          refine f_inc 1 [(4, fi (5)), (3, fi (1)), (0, .ref 55), (1, fi (p)), (2, fi (t))] rfl (by decide) hL13 rfl rfl (fun L14 hL14 => ?_)
          refine f_goto rfl ?_
          have e9 : se1 m p t 4 false = true := (if_pos (by omega)).trans (by rw [decide_eq_true ⟨by omega, by omega⟩]; rfl)
          rw [e9]
          exact hK5_1 hc _ hw hm (hL14.sel [0, 1, 2, 3, 4] rfl)
  have hK4_1 : ∀ (hc : ev_H) (L : ev_L), y_in yGw hc → gi hc = m → f_L L [(4, fi (4)), (3, fi (1)), (0, .ref 55), (1, fi (p)), (2, fi (t))] → x_W none (2, 0, 5, 2, 11, 0, 0, 0, 0, ev_t159) 5 L [] hc 0 0 (fun r' h' => r' = some (fi (bI (se1 m p t 5 (se1 m p t 4 (true))))) ∧ y_in yGw h' ∧ gi h' = m) := fun hc L hw hm hL => by
    refine f_il 0 rfl hL rfl ?_
    refine f_aln 2 rfl hL rfl ?_
    refine m_gfi so55 (m 55 21) rfl hw hm rfl rfl ?_
    refine f_ic rfl (by decide) (by omega) (fun c1 => ?_) (fun c1 => ?_)
    · have c1 : (m 55 21 : Int) ≤ (4 : Int) := c1
      have e8 : se1 m p t 5 (se1 m p t 4 (true)) = true := by unfold se1; rw [if_neg (by omega), if_neg (by omega)]
      rw [e8]
      refine f_iln 1 rfl hL rfl ?_
      exact f_ret2 rfl (Or.inr rfl) ⟨rfl, hw, hm⟩
    · have c1 : ¬ ((m 55 21 : Int) ≤ (4 : Int)) := c1
      refine f_iln 1 rfl hL rfl ?_
      refine f_if rfl (by decide) (fun _ => ?_) (fun c_9 => absurd (show ¬ (1 : Int) = (0 : Int) from (by decide)) c_9)
      refine f_s [fi (1)] rfl rfl ?_
      refine f_goto rfl ?_
      refine f_istn [(3, fi (1)), (4, fi (4)), (0, .ref 55), (1, fi (p)), (2, fi (t))] rfl (by decide) hL rfl (fun L15 hL15 => ?_)
      refine f_inc 1 [(4, fi (5)), (3, fi (1)), (0, .ref 55), (1, fi (p)), (2, fi (t))] rfl (by decide) hL15 rfl rfl (fun L16 hL16 => ?_)
      refine f_goto rfl ?_
      have e9 : se1 m p t 4 true = true := (if_pos (by omega)).trans (by rfl)
      rw [e9]
      exact hK5_1 hc _ hw hm (hL16.sel [0, 1, 2, 3, 4] rfl)
  have hK3_0 : ∀ (hc : ev_H) (L : ev_L), y_in yGw hc → gi hc = m → f_L L [(4, fi (3)), (3, fi (0)), (0, .ref 55), (1, fi (p)), (2, fi (t))] → x_W none (2, 0, 5, 2, 11, 0, 0, 0, 0, ev_t159) 5 L [] hc 0 0 (fun r' h' => r' = some (fi (bI (se1 m p t 5 (se1 m p t 4 (se1 m p t 3 (false)))))) ∧ y_in yGw h' ∧ gi h' = m) := fun hc L hw hm hL => by
    refine f_il 0 rfl hL rfl ?_
    refine f_aln 2 rfl hL rfl ?_
    refine m_gfi so55 (m 55 21) rfl hw hm rfl rfl ?_
    refine f_ic rfl (by decide) (by omega) (fun c1 => ?_) (fun c1 => ?_)
    · have c1 : (m 55 21 : Int) ≤ (3 : Int) := c1
      have e8 : se1 m p t 5 (se1 m p t 4 (se1 m p t 3 (false))) = false := by unfold se1; rw [if_neg (by omega), if_neg (by omega), if_neg (by omega)]
      rw [e8]
      refine f_iln 1 rfl hL rfl ?_
      exact f_ret2 rfl (Or.inl rfl) ⟨rfl, hw, hm⟩
    · have c1 : ¬ ((m 55 21 : Int) ≤ (3 : Int)) := c1
      refine f_iln 1 rfl hL rfl ?_
      refine f_if rfl (by decide) (fun c_9 => absurd (show ¬ (0 : Int) = (0 : Int) from c_9) (by decide)) (fun _ => ?_)
      refine f_aln 2 rfl hL rfl ?_
      refine m_gfr so55 rfl hw rfl (by decide) ?_
      refine f_il 0 rfl hL rfl ?_
      refine m_ia sa67 (m 67 3) rfl hw hm (by omega) (by omega) (by decide) rfl ?_
      refine f_iln 3 rfl hL rfl ?_
      refine f_ic rfl (hR 67 3) rp (fun c2 => ?_) (fun c2 => ?_)
      · have c2 : ¬ (m 67 3 : Int) = (p : Int) := c2
        refine f_s [fi (0)] rfl rfl ?_
        refine f_istn [(3, fi (0)), (4, fi (3)), (0, .ref 55), (1, fi (p)), (2, fi (t))] rfl (by decide) hL rfl (fun L17 hL17 => ?_)
        refine f_inc 1 [(4, fi (4)), (3, fi (0)), (0, .ref 55), (1, fi (p)), (2, fi (t))] rfl (by decide) hL17 rfl rfl (fun L18 hL18 => ?_)
        refine f_goto rfl ?_
        have e9 : se1 m p t 3 false = false := (if_pos (by omega)).trans (by rw [decide_eq_false (fun z => c2 z.1)]; rfl)
        rw [e9]
        exact hK4_0 hc _ hw hm (hL18.sel [0, 1, 2, 3, 4] rfl)
      · have c2 : ¬ (¬ (m 67 3 : Int) = (p : Int)) := c2
        refine f_aln 2 rfl hL rfl ?_
        refine m_gfr so55 rfl hw rfl (by decide) ?_
        refine f_il 0 rfl hL rfl ?_
        refine m_ia sa68 (m 68 3) rfl hw hm (by omega) (by omega) (by decide) rfl ?_
        refine f_iln 4 rfl hL rfl ?_
        refine f_ic rfl (hR 68 3) rt (fun c3 => ?_) (fun c3 => ?_)
        · have c3 : ¬ (m 68 3 : Int) = (t : Int) := c3
          refine f_s [fi (0)] rfl rfl ?_
          refine f_istn [(3, fi (0)), (4, fi (3)), (0, .ref 55), (1, fi (p)), (2, fi (t))] rfl (by decide) hL rfl (fun L19 hL19 => ?_)
          refine f_inc 1 [(4, fi (4)), (3, fi (0)), (0, .ref 55), (1, fi (p)), (2, fi (t))] rfl (by decide) hL19 rfl rfl (fun L20 hL20 => ?_)
          refine f_goto rfl ?_
          have e9 : se1 m p t 3 false = false := (if_pos (by omega)).trans (by rw [decide_eq_false (fun z => c3 z.2)]; rfl)
          rw [e9]
          exact hK4_0 hc _ hw hm (hL20.sel [0, 1, 2, 3, 4] rfl)
        · have c3 : ¬ (¬ (m 68 3 : Int) = (t : Int)) := c3
          refine f_s [fi (1)] rfl rfl ?_
          refine f_goto rfl ?_
          refine f_istn [(3, fi (1)), (4, fi (3)), (0, .ref 55), (1, fi (p)), (2, fi (t))] rfl (by decide) hL rfl (fun L21 hL21 => ?_)
          refine f_inc 1 [(4, fi (4)), (3, fi (1)), (0, .ref 55), (1, fi (p)), (2, fi (t))] rfl (by decide) hL21 rfl rfl (fun L22 hL22 => ?_)
          refine f_goto rfl ?_
          have e9 : se1 m p t 3 false = true := (if_pos (by omega)).trans (by rw [decide_eq_true ⟨by omega, by omega⟩]; rfl)
          rw [e9]
          exact hK4_1 hc _ hw hm (hL22.sel [0, 1, 2, 3, 4] rfl)
  have hK3_1 : ∀ (hc : ev_H) (L : ev_L), y_in yGw hc → gi hc = m → f_L L [(4, fi (3)), (3, fi (1)), (0, .ref 55), (1, fi (p)), (2, fi (t))] → x_W none (2, 0, 5, 2, 11, 0, 0, 0, 0, ev_t159) 5 L [] hc 0 0 (fun r' h' => r' = some (fi (bI (se1 m p t 5 (se1 m p t 4 (se1 m p t 3 (true)))))) ∧ y_in yGw h' ∧ gi h' = m) := fun hc L hw hm hL => by
    refine f_il 0 rfl hL rfl ?_
    refine f_aln 2 rfl hL rfl ?_
    refine m_gfi so55 (m 55 21) rfl hw hm rfl rfl ?_
    refine f_ic rfl (by decide) (by omega) (fun c1 => ?_) (fun c1 => ?_)
    · have c1 : (m 55 21 : Int) ≤ (3 : Int) := c1
      have e8 : se1 m p t 5 (se1 m p t 4 (se1 m p t 3 (true))) = true := by unfold se1; rw [if_neg (by omega), if_neg (by omega), if_neg (by omega)]
      rw [e8]
      refine f_iln 1 rfl hL rfl ?_
      exact f_ret2 rfl (Or.inr rfl) ⟨rfl, hw, hm⟩
    · have c1 : ¬ ((m 55 21 : Int) ≤ (3 : Int)) := c1
      refine f_iln 1 rfl hL rfl ?_
      refine f_if rfl (by decide) (fun _ => ?_) (fun c_9 => absurd (show ¬ (1 : Int) = (0 : Int) from (by decide)) c_9)
      refine f_s [fi (1)] rfl rfl ?_
      refine f_goto rfl ?_
      refine f_istn [(3, fi (1)), (4, fi (3)), (0, .ref 55), (1, fi (p)), (2, fi (t))] rfl (by decide) hL rfl (fun L23 hL23 => ?_)
      refine f_inc 1 [(4, fi (4)), (3, fi (1)), (0, .ref 55), (1, fi (p)), (2, fi (t))] rfl (by decide) hL23 rfl rfl (fun L24 hL24 => ?_)
      refine f_goto rfl ?_
      have e9 : se1 m p t 3 true = true := (if_pos (by omega)).trans (by rfl)
      rw [e9]
      exact hK4_1 hc _ hw hm (hL24.sel [0, 1, 2, 3, 4] rfl)
  have hK2_0 : ∀ (hc : ev_H) (L : ev_L), y_in yGw hc → gi hc = m → f_L L [(4, fi (2)), (3, fi (0)), (0, .ref 55), (1, fi (p)), (2, fi (t))] → x_W none (2, 0, 5, 2, 11, 0, 0, 0, 0, ev_t159) 5 L [] hc 0 0 (fun r' h' => r' = some (fi (bI (se1 m p t 5 (se1 m p t 4 (se1 m p t 3 (se1 m p t 2 (false))))))) ∧ y_in yGw h' ∧ gi h' = m) := fun hc L hw hm hL => by
    refine f_il 0 rfl hL rfl ?_
    refine f_aln 2 rfl hL rfl ?_
    refine m_gfi so55 (m 55 21) rfl hw hm rfl rfl ?_
    refine f_ic rfl (by decide) (by omega) (fun c1 => ?_) (fun c1 => ?_)
    · have c1 : (m 55 21 : Int) ≤ (2 : Int) := c1
      have e8 : se1 m p t 5 (se1 m p t 4 (se1 m p t 3 (se1 m p t 2 (false)))) = false := by unfold se1; rw [if_neg (by omega), if_neg (by omega), if_neg (by omega), if_neg (by omega)]
      rw [e8]
      refine f_iln 1 rfl hL rfl ?_
      exact f_ret2 rfl (Or.inl rfl) ⟨rfl, hw, hm⟩
    · have c1 : ¬ ((m 55 21 : Int) ≤ (2 : Int)) := c1
      refine f_iln 1 rfl hL rfl ?_
      refine f_if rfl (by decide) (fun c_9 => absurd (show ¬ (0 : Int) = (0 : Int) from c_9) (by decide)) (fun _ => ?_)
      refine f_aln 2 rfl hL rfl ?_
      refine m_gfr so55 rfl hw rfl (by decide) ?_
      refine f_il 0 rfl hL rfl ?_
      refine m_ia sa67 (m 67 2) rfl hw hm (by omega) (by omega) (by decide) rfl ?_
      refine f_iln 3 rfl hL rfl ?_
      refine f_ic rfl (hR 67 2) rp (fun c2 => ?_) (fun c2 => ?_)
      · have c2 : ¬ (m 67 2 : Int) = (p : Int) := c2
        refine f_s [fi (0)] rfl rfl ?_
        refine f_istn [(3, fi (0)), (4, fi (2)), (0, .ref 55), (1, fi (p)), (2, fi (t))] rfl (by decide) hL rfl (fun L25 hL25 => ?_)
        refine f_inc 1 [(4, fi (3)), (3, fi (0)), (0, .ref 55), (1, fi (p)), (2, fi (t))] rfl (by decide) hL25 rfl rfl (fun L26 hL26 => ?_)
        refine f_goto rfl ?_
        have e9 : se1 m p t 2 false = false := (if_pos (by omega)).trans (by rw [decide_eq_false (fun z => c2 z.1)]; rfl)
        rw [e9]
        exact hK3_0 hc _ hw hm (hL26.sel [0, 1, 2, 3, 4] rfl)
      · have c2 : ¬ (¬ (m 67 2 : Int) = (p : Int)) := c2
        refine f_aln 2 rfl hL rfl ?_
        refine m_gfr so55 rfl hw rfl (by decide) ?_
        refine f_il 0 rfl hL rfl ?_
        refine m_ia sa68 (m 68 2) rfl hw hm (by omega) (by omega) (by decide) rfl ?_
        refine f_iln 4 rfl hL rfl ?_
        refine f_ic rfl (hR 68 2) rt (fun c3 => ?_) (fun c3 => ?_)
        · have c3 : ¬ (m 68 2 : Int) = (t : Int) := c3
          refine f_s [fi (0)] rfl rfl ?_
          refine f_istn [(3, fi (0)), (4, fi (2)), (0, .ref 55), (1, fi (p)), (2, fi (t))] rfl (by decide) hL rfl (fun L27 hL27 => ?_)
          refine f_inc 1 [(4, fi (3)), (3, fi (0)), (0, .ref 55), (1, fi (p)), (2, fi (t))] rfl (by decide) hL27 rfl rfl (fun L28 hL28 => ?_)
          refine f_goto rfl ?_
          have e9 : se1 m p t 2 false = false := (if_pos (by omega)).trans (by rw [decide_eq_false (fun z => c3 z.2)]; rfl)
          rw [e9]
          exact hK3_0 hc _ hw hm (hL28.sel [0, 1, 2, 3, 4] rfl)
        · have c3 : ¬ (¬ (m 68 2 : Int) = (t : Int)) := c3
          refine f_s [fi (1)] rfl rfl ?_
          refine f_goto rfl ?_
          refine f_istn [(3, fi (1)), (4, fi (2)), (0, .ref 55), (1, fi (p)), (2, fi (t))] rfl (by decide) hL rfl (fun L29 hL29 => ?_)
          refine f_inc 1 [(4, fi (3)), (3, fi (1)), (0, .ref 55), (1, fi (p)), (2, fi (t))] rfl (by decide) hL29 rfl rfl (fun L30 hL30 => ?_)
          refine f_goto rfl ?_
          have e9 : se1 m p t 2 false = true := (if_pos (by omega)).trans (by rw [decide_eq_true ⟨by omega, by omega⟩]; rfl)
          rw [e9]
          exact hK3_1 hc _ hw hm (hL30.sel [0, 1, 2, 3, 4] rfl)
  have hK2_1 : ∀ (hc : ev_H) (L : ev_L), y_in yGw hc → gi hc = m → f_L L [(4, fi (2)), (3, fi (1)), (0, .ref 55), (1, fi (p)), (2, fi (t))] → x_W none (2, 0, 5, 2, 11, 0, 0, 0, 0, ev_t159) 5 L [] hc 0 0 (fun r' h' => r' = some (fi (bI (se1 m p t 5 (se1 m p t 4 (se1 m p t 3 (se1 m p t 2 (true))))))) ∧ y_in yGw h' ∧ gi h' = m) := fun hc L hw hm hL => by
    refine f_il 0 rfl hL rfl ?_
    refine f_aln 2 rfl hL rfl ?_
    refine m_gfi so55 (m 55 21) rfl hw hm rfl rfl ?_
    refine f_ic rfl (by decide) (by omega) (fun c1 => ?_) (fun c1 => ?_)
    · have c1 : (m 55 21 : Int) ≤ (2 : Int) := c1
      have e8 : se1 m p t 5 (se1 m p t 4 (se1 m p t 3 (se1 m p t 2 (true)))) = true := by unfold se1; rw [if_neg (by omega), if_neg (by omega), if_neg (by omega), if_neg (by omega)]
      rw [e8]
      refine f_iln 1 rfl hL rfl ?_
      exact f_ret2 rfl (Or.inr rfl) ⟨rfl, hw, hm⟩
    · have c1 : ¬ ((m 55 21 : Int) ≤ (2 : Int)) := c1
      refine f_iln 1 rfl hL rfl ?_
      refine f_if rfl (by decide) (fun _ => ?_) (fun c_9 => absurd (show ¬ (1 : Int) = (0 : Int) from (by decide)) c_9)
      refine f_s [fi (1)] rfl rfl ?_
      refine f_goto rfl ?_
      refine f_istn [(3, fi (1)), (4, fi (2)), (0, .ref 55), (1, fi (p)), (2, fi (t))] rfl (by decide) hL rfl (fun L31 hL31 => ?_)
      refine f_inc 1 [(4, fi (3)), (3, fi (1)), (0, .ref 55), (1, fi (p)), (2, fi (t))] rfl (by decide) hL31 rfl rfl (fun L32 hL32 => ?_)
      refine f_goto rfl ?_
      have e9 : se1 m p t 2 true = true := (if_pos (by omega)).trans (by rfl)
      rw [e9]
      exact hK3_1 hc _ hw hm (hL32.sel [0, 1, 2, 3, 4] rfl)
  have hK1_0 : ∀ (hc : ev_H) (L : ev_L), y_in yGw hc → gi hc = m → f_L L [(4, fi (1)), (3, fi (0)), (0, .ref 55), (1, fi (p)), (2, fi (t))] → x_W none (2, 0, 5, 2, 11, 0, 0, 0, 0, ev_t159) 5 L [] hc 0 0 (fun r' h' => r' = some (fi (bI (se1 m p t 5 (se1 m p t 4 (se1 m p t 3 (se1 m p t 2 (se1 m p t 1 (false)))))))) ∧ y_in yGw h' ∧ gi h' = m) := fun hc L hw hm hL => by
    refine f_il 0 rfl hL rfl ?_
    refine f_aln 2 rfl hL rfl ?_
    refine m_gfi so55 (m 55 21) rfl hw hm rfl rfl ?_
    refine f_ic rfl (by decide) (by omega) (fun c1 => ?_) (fun c1 => ?_)
    · have c1 : (m 55 21 : Int) ≤ (1 : Int) := c1
      have e8 : se1 m p t 5 (se1 m p t 4 (se1 m p t 3 (se1 m p t 2 (se1 m p t 1 (false))))) = false := by unfold se1; rw [if_neg (by omega), if_neg (by omega), if_neg (by omega), if_neg (by omega), if_neg (by omega)]
      rw [e8]
      refine f_iln 1 rfl hL rfl ?_
      exact f_ret2 rfl (Or.inl rfl) ⟨rfl, hw, hm⟩
    · have c1 : ¬ ((m 55 21 : Int) ≤ (1 : Int)) := c1
      refine f_iln 1 rfl hL rfl ?_
      refine f_if rfl (by decide) (fun c_9 => absurd (show ¬ (0 : Int) = (0 : Int) from c_9) (by decide)) (fun _ => ?_)
      refine f_aln 2 rfl hL rfl ?_
      refine m_gfr so55 rfl hw rfl (by decide) ?_
      refine f_il 0 rfl hL rfl ?_
      refine m_ia sa67 (m 67 1) rfl hw hm (by omega) (by omega) (by decide) rfl ?_
      refine f_iln 3 rfl hL rfl ?_
      refine f_ic rfl (hR 67 1) rp (fun c2 => ?_) (fun c2 => ?_)
      · have c2 : ¬ (m 67 1 : Int) = (p : Int) := c2
        refine f_s [fi (0)] rfl rfl ?_
        refine f_istn [(3, fi (0)), (4, fi (1)), (0, .ref 55), (1, fi (p)), (2, fi (t))] rfl (by decide) hL rfl (fun L33 hL33 => ?_)
        refine f_inc 1 [(4, fi (2)), (3, fi (0)), (0, .ref 55), (1, fi (p)), (2, fi (t))] rfl (by decide) hL33 rfl rfl (fun L34 hL34 => ?_)
        refine f_goto rfl ?_
        have e9 : se1 m p t 1 false = false := (if_pos (by omega)).trans (by rw [decide_eq_false (fun z => c2 z.1)]; rfl)
        rw [e9]
        exact hK2_0 hc _ hw hm (hL34.sel [0, 1, 2, 3, 4] rfl)
      · have c2 : ¬ (¬ (m 67 1 : Int) = (p : Int)) := c2
        refine f_aln 2 rfl hL rfl ?_
        refine m_gfr so55 rfl hw rfl (by decide) ?_
        refine f_il 0 rfl hL rfl ?_
        refine m_ia sa68 (m 68 1) rfl hw hm (by omega) (by omega) (by decide) rfl ?_
        refine f_iln 4 rfl hL rfl ?_
        refine f_ic rfl (hR 68 1) rt (fun c3 => ?_) (fun c3 => ?_)
        · have c3 : ¬ (m 68 1 : Int) = (t : Int) := c3
          refine f_s [fi (0)] rfl rfl ?_
          refine f_istn [(3, fi (0)), (4, fi (1)), (0, .ref 55), (1, fi (p)), (2, fi (t))] rfl (by decide) hL rfl (fun L35 hL35 => ?_)
          refine f_inc 1 [(4, fi (2)), (3, fi (0)), (0, .ref 55), (1, fi (p)), (2, fi (t))] rfl (by decide) hL35 rfl rfl (fun L36 hL36 => ?_)
          refine f_goto rfl ?_
          have e9 : se1 m p t 1 false = false := (if_pos (by omega)).trans (by rw [decide_eq_false (fun z => c3 z.2)]; rfl)
          rw [e9]
          exact hK2_0 hc _ hw hm (hL36.sel [0, 1, 2, 3, 4] rfl)
        · have c3 : ¬ (¬ (m 68 1 : Int) = (t : Int)) := c3
          refine f_s [fi (1)] rfl rfl ?_
          refine f_goto rfl ?_
          refine f_istn [(3, fi (1)), (4, fi (1)), (0, .ref 55), (1, fi (p)), (2, fi (t))] rfl (by decide) hL rfl (fun L37 hL37 => ?_)
          refine f_inc 1 [(4, fi (2)), (3, fi (1)), (0, .ref 55), (1, fi (p)), (2, fi (t))] rfl (by decide) hL37 rfl rfl (fun L38 hL38 => ?_)
          refine f_goto rfl ?_
          have e9 : se1 m p t 1 false = true := (if_pos (by omega)).trans (by rw [decide_eq_true ⟨by omega, by omega⟩]; rfl)
          rw [e9]
          exact hK2_1 hc _ hw hm (hL38.sel [0, 1, 2, 3, 4] rfl)
  have hK1_1 : ∀ (hc : ev_H) (L : ev_L), y_in yGw hc → gi hc = m → f_L L [(4, fi (1)), (3, fi (1)), (0, .ref 55), (1, fi (p)), (2, fi (t))] → x_W none (2, 0, 5, 2, 11, 0, 0, 0, 0, ev_t159) 5 L [] hc 0 0 (fun r' h' => r' = some (fi (bI (se1 m p t 5 (se1 m p t 4 (se1 m p t 3 (se1 m p t 2 (se1 m p t 1 (true)))))))) ∧ y_in yGw h' ∧ gi h' = m) := fun hc L hw hm hL => by
    refine f_il 0 rfl hL rfl ?_
    refine f_aln 2 rfl hL rfl ?_
    refine m_gfi so55 (m 55 21) rfl hw hm rfl rfl ?_
    refine f_ic rfl (by decide) (by omega) (fun c1 => ?_) (fun c1 => ?_)
    · have c1 : (m 55 21 : Int) ≤ (1 : Int) := c1
      have e8 : se1 m p t 5 (se1 m p t 4 (se1 m p t 3 (se1 m p t 2 (se1 m p t 1 (true))))) = true := by unfold se1; rw [if_neg (by omega), if_neg (by omega), if_neg (by omega), if_neg (by omega), if_neg (by omega)]
      rw [e8]
      refine f_iln 1 rfl hL rfl ?_
      exact f_ret2 rfl (Or.inr rfl) ⟨rfl, hw, hm⟩
    · have c1 : ¬ ((m 55 21 : Int) ≤ (1 : Int)) := c1
      refine f_iln 1 rfl hL rfl ?_
      refine f_if rfl (by decide) (fun _ => ?_) (fun c_9 => absurd (show ¬ (1 : Int) = (0 : Int) from (by decide)) c_9)
      refine f_s [fi (1)] rfl rfl ?_
      refine f_goto rfl ?_
      refine f_istn [(3, fi (1)), (4, fi (1)), (0, .ref 55), (1, fi (p)), (2, fi (t))] rfl (by decide) hL rfl (fun L39 hL39 => ?_)
      refine f_inc 1 [(4, fi (2)), (3, fi (1)), (0, .ref 55), (1, fi (p)), (2, fi (t))] rfl (by decide) hL39 rfl rfl (fun L40 hL40 => ?_)
      refine f_goto rfl ?_
      have e9 : se1 m p t 1 true = true := (if_pos (by omega)).trans (by rfl)
      rw [e9]
      exact hK2_1 hc _ hw hm (hL40.sel [0, 1, 2, 3, 4] rfl)
  have hK0_0 : ∀ (hc : ev_H) (L : ev_L), y_in yGw hc → gi hc = m → f_L L [(4, fi (0)), (3, fi (0)), (0, .ref 55), (1, fi (p)), (2, fi (t))] → x_W none (2, 0, 5, 2, 11, 0, 0, 0, 0, ev_t159) 5 L [] hc 0 0 (fun r' h' => r' = some (fi (bI (se1 m p t 5 (se1 m p t 4 (se1 m p t 3 (se1 m p t 2 (se1 m p t 1 (se1 m p t 0 (false))))))))) ∧ y_in yGw h' ∧ gi h' = m) := fun hc L hw hm hL => by
    refine f_il 0 rfl hL rfl ?_
    refine f_aln 2 rfl hL rfl ?_
    refine m_gfi so55 (m 55 21) rfl hw hm rfl rfl ?_
    refine f_ic rfl (by decide) (by omega) (fun c1 => ?_) (fun c1 => ?_)
    · have c1 : (m 55 21 : Int) ≤ (0 : Int) := c1
      have e8 : se1 m p t 5 (se1 m p t 4 (se1 m p t 3 (se1 m p t 2 (se1 m p t 1 (se1 m p t 0 (false)))))) = false := by unfold se1; rw [if_neg (by omega), if_neg (by omega), if_neg (by omega), if_neg (by omega), if_neg (by omega), if_neg (by omega)]
      rw [e8]
      refine f_iln 1 rfl hL rfl ?_
      exact f_ret2 rfl (Or.inl rfl) ⟨rfl, hw, hm⟩
    · have c1 : ¬ ((m 55 21 : Int) ≤ (0 : Int)) := c1
      refine f_iln 1 rfl hL rfl ?_
      refine f_if rfl (by decide) (fun c_9 => absurd (show ¬ (0 : Int) = (0 : Int) from c_9) (by decide)) (fun _ => ?_)
      refine f_aln 2 rfl hL rfl ?_
      refine m_gfr so55 rfl hw rfl (by decide) ?_
      refine f_il 0 rfl hL rfl ?_
      refine m_ia sa67 (m 67 0) rfl hw hm (by omega) (by omega) (by decide) rfl ?_
      refine f_iln 3 rfl hL rfl ?_
      refine f_ic rfl (hR 67 0) rp (fun c2 => ?_) (fun c2 => ?_)
      · have c2 : ¬ (m 67 0 : Int) = (p : Int) := c2
        refine f_s [fi (0)] rfl rfl ?_
        refine f_istn [(3, fi (0)), (4, fi (0)), (0, .ref 55), (1, fi (p)), (2, fi (t))] rfl (by decide) hL rfl (fun L41 hL41 => ?_)
        refine f_inc 1 [(4, fi (1)), (3, fi (0)), (0, .ref 55), (1, fi (p)), (2, fi (t))] rfl (by decide) hL41 rfl rfl (fun L42 hL42 => ?_)
        refine f_goto rfl ?_
        have e9 : se1 m p t 0 false = false := (if_pos (by omega)).trans (by rw [decide_eq_false (fun z => c2 z.1)]; rfl)
        rw [e9]
        exact hK1_0 hc _ hw hm (hL42.sel [0, 1, 2, 3, 4] rfl)
      · have c2 : ¬ (¬ (m 67 0 : Int) = (p : Int)) := c2
        refine f_aln 2 rfl hL rfl ?_
        refine m_gfr so55 rfl hw rfl (by decide) ?_
        refine f_il 0 rfl hL rfl ?_
        refine m_ia sa68 (m 68 0) rfl hw hm (by omega) (by omega) (by decide) rfl ?_
        refine f_iln 4 rfl hL rfl ?_
        refine f_ic rfl (hR 68 0) rt (fun c3 => ?_) (fun c3 => ?_)
        · have c3 : ¬ (m 68 0 : Int) = (t : Int) := c3
          refine f_s [fi (0)] rfl rfl ?_
          refine f_istn [(3, fi (0)), (4, fi (0)), (0, .ref 55), (1, fi (p)), (2, fi (t))] rfl (by decide) hL rfl (fun L43 hL43 => ?_)
          refine f_inc 1 [(4, fi (1)), (3, fi (0)), (0, .ref 55), (1, fi (p)), (2, fi (t))] rfl (by decide) hL43 rfl rfl (fun L44 hL44 => ?_)
          refine f_goto rfl ?_
          have e9 : se1 m p t 0 false = false := (if_pos (by omega)).trans (by rw [decide_eq_false (fun z => c3 z.2)]; rfl)
          rw [e9]
          exact hK1_0 hc _ hw hm (hL44.sel [0, 1, 2, 3, 4] rfl)
        · have c3 : ¬ (¬ (m 68 0 : Int) = (t : Int)) := c3
          refine f_s [fi (1)] rfl rfl ?_
          refine f_goto rfl ?_
          refine f_istn [(3, fi (1)), (4, fi (0)), (0, .ref 55), (1, fi (p)), (2, fi (t))] rfl (by decide) hL rfl (fun L45 hL45 => ?_)
          refine f_inc 1 [(4, fi (1)), (3, fi (1)), (0, .ref 55), (1, fi (p)), (2, fi (t))] rfl (by decide) hL45 rfl rfl (fun L46 hL46 => ?_)
          refine f_goto rfl ?_
          have e9 : se1 m p t 0 false = true := (if_pos (by omega)).trans (by rw [decide_eq_true ⟨by omega, by omega⟩]; rfl)
          rw [e9]
          exact hK1_1 hc _ hw hm (hL46.sel [0, 1, 2, 3, 4] rfl)
  have hK0_1 : ∀ (hc : ev_H) (L : ev_L), y_in yGw hc → gi hc = m → f_L L [(4, fi (0)), (3, fi (1)), (0, .ref 55), (1, fi (p)), (2, fi (t))] → x_W none (2, 0, 5, 2, 11, 0, 0, 0, 0, ev_t159) 5 L [] hc 0 0 (fun r' h' => r' = some (fi (bI (se1 m p t 5 (se1 m p t 4 (se1 m p t 3 (se1 m p t 2 (se1 m p t 1 (se1 m p t 0 (true))))))))) ∧ y_in yGw h' ∧ gi h' = m) := fun hc L hw hm hL => by
    refine f_il 0 rfl hL rfl ?_
    refine f_aln 2 rfl hL rfl ?_
    refine m_gfi so55 (m 55 21) rfl hw hm rfl rfl ?_
    refine f_ic rfl (by decide) (by omega) (fun c1 => ?_) (fun c1 => ?_)
    · have c1 : (m 55 21 : Int) ≤ (0 : Int) := c1
      have e8 : se1 m p t 5 (se1 m p t 4 (se1 m p t 3 (se1 m p t 2 (se1 m p t 1 (se1 m p t 0 (true)))))) = true := by unfold se1; rw [if_neg (by omega), if_neg (by omega), if_neg (by omega), if_neg (by omega), if_neg (by omega), if_neg (by omega)]
      rw [e8]
      refine f_iln 1 rfl hL rfl ?_
      exact f_ret2 rfl (Or.inr rfl) ⟨rfl, hw, hm⟩
    · have c1 : ¬ ((m 55 21 : Int) ≤ (0 : Int)) := c1
      refine f_iln 1 rfl hL rfl ?_
      refine f_if rfl (by decide) (fun _ => ?_) (fun c_9 => absurd (show ¬ (1 : Int) = (0 : Int) from (by decide)) c_9)
      refine f_s [fi (1)] rfl rfl ?_
      refine f_goto rfl ?_
      refine f_istn [(3, fi (1)), (4, fi (0)), (0, .ref 55), (1, fi (p)), (2, fi (t))] rfl (by decide) hL rfl (fun L47 hL47 => ?_)
      refine f_inc 1 [(4, fi (1)), (3, fi (1)), (0, .ref 55), (1, fi (p)), (2, fi (t))] rfl (by decide) hL47 rfl rfl (fun L48 hL48 => ?_)
      refine f_goto rfl ?_
      have e9 : se1 m p t 0 true = true := (if_pos (by omega)).trans (by rfl)
      rw [e9]
      exact hK1_1 hc _ hw hm (hL48.sel [0, 1, 2, 3, 4] rfl)
  refine f_s [fi (0)] rfl rfl ?_
  refine f_istn [(3, fi (0)), (0, .ref 55), (1, fi (p)), (2, fi (t))] rfl (by decide) hL rfl (fun L49 hL49 => ?_)
  refine f_s [fi (0)] rfl rfl ?_
  refine f_ist [(4, fi (0)), (3, fi (0)), (0, .ref 55), (1, fi (p)), (2, fi (t))] rfl (by decide) hL49 rfl (fun L50 hL50 => ?_)
  exact hK0_0 hc _ hw hm (hL50.sel [0, 1, 2, 3, 4] rfl))
theorem se_sn (m : Nat → Nat → Int) (p t : Int) : se1 m p t 5 (se1 m p t 4 (se1 m p t 3 (se1 m p t 2 (se1 m p t 1 (se1 m p t 0 (false)))))) = sn m p t := by
  have e : ∀ (e : Nat) (a : Bool), se1 m p t e a = (a || snE m p t e) := fun e a => by
    unfold se1 snE
    by_cases c : (e : Int) < m 55 21
    · rw [if_pos c]
      congr 1
      exact decide_eq_decide.mpr ⟨fun z => ⟨c, z⟩, fun z => z.2⟩
    · rw [if_neg c, decide_eq_false (fun z => c z.1), Bool.or_false]
  rw [e, e, e, e, e, e, Bool.false_or]
  rfl
def wmE (m : Nat → Nat → Int) (k p : Int) (i e : Nat) (a : Bool) : Bool := if (e : Int) < m 55 21 then a && (decide (¬ m 67 e = 5 + k) || (decide (¬ iA (iR (m 61 16) p) 1 = 1 ∧ m 58 i ≤ m 68 e ∧ m 68 e ≤ m 59 i) && !(sn m p (m 68 e)))) else a
def wmB (m : Nat → Nat → Int) (k p : Int) (i : Nat) : Bool := wmE m k p i 5 (wmE m k p i 4 (wmE m k p i 3 (wmE m k p i 2 (wmE m k p i 1 (wmE m k p i 0 (decide (¬ iA (iR (m 61 16) p) 1 = 1 ∧ iA (iR (m 60 i) k) 1 = 1)))))))
def wm1 (m : Nat → Nat → Int) (k p : Int) (i : Nat) (s b : Int) : Int := if p < m 55 1 then iO b (if wmB m k p i = true then s else 0) else b
theorem t160_un {m : Nat → Nat → Int} (hn : 0 ≤ m 55 0 ∧ m 55 0 ≤ 4) {k : Int} (rk : -2147483648 ≤ k ∧ k ≤ 2147483647) (h0 : ¬ (0 ≤ k ∧ k < m 55 0)) : h_M 160 [.ref 55, fi (k)] m (some (fi (-1))) m := h_M_of (R := ev_r160) rfl (fun hc hw hm => by
  have hL : f_L (lv_args 0 [.ref 55, fi (k)]) [(0, .ref 55), (1, fi (k))] := f_L_of rfl
  generalize lv_args 0 [.ref 55, fi (k)] = L at hL
  show x_W none (1, 0, 6, 1, 11, 3, 66, 0, 0, ev_t160) 0 L [] hc 0 0 _
  have hR := gi_R hm
  refine f_aln 0 rfl hL rfl ?_
  refine f_iln 1 rfl hL rfl ?_
  refine m_k1 (t46 hn.1 hn.2 rk) hw hm rfl rfl rfl (m_ar so55 hw rfl) rfl (fun hc1 hw1 hm1 => ?_)
  refine f_if rfl (bI_r _) (fun c_9 => absurd (show ¬ (bI (decide (0 ≤ k ∧ k < m 55 0)) : Int) = (0 : Int) from c_9) (by rw [decide_eq_false h0]; exact fun z => z rfl)) (fun _ => ?_)
  refine f_s [fi (-1)] rfl rfl ?_
  exact f_ret1 rfl ⟨rfl, hw1, hm1⟩)
set_option maxHeartbeats 2000000 in
theorem t160_ok {m : Nat → Nat → Int} (hn : 0 ≤ m 55 0 ∧ m 55 0 ≤ 4) (hp : 0 ≤ m 55 1 ∧ m 55 1 ≤ 5) (ht : 0 ≤ m 55 21 ∧ m 55 21 ≤ 6) {k : Int} (rk : -2147483648 ≤ k ∧ k ≤ 2147483647) (h0 : 0 ≤ k ∧ k < m 55 0) : h_M 160 [.ref 55, fi (k)] m (some (fi (wm1 m k 4 4 (iS 1 4) (wm1 m k 3 3 (iS 1 3) (wm1 m k 2 2 (iS 1 2) (wm1 m k 1 1 (iS 1 1) (wm1 m k 0 0 (iS 1 0) (0)))))))) m := h_M_of (R := ev_r160) rfl (fun hc hw hm => by
  have hL : f_L (lv_args 0 [.ref 55, fi (k)]) [(0, .ref 55), (1, fi (k))] := f_L_of rfl
  generalize lv_args 0 [.ref 55, fi (k)] = L at hL
  show x_W none (1, 0, 6, 1, 11, 3, 66, 0, 0, ev_t160) 0 L [] hc 0 0 _
  have hR := gi_R hm
  have hK5 : ∀ (hc : ev_H) (b : Int) (L : ev_L), y_in yGw hc → gi hc = m → f_L L [(3, fi (5)), (2, fi (b)), (0, .ref 55), (1, fi (k))] → x_W none (1, 0, 6, 1, 11, 3, 66, 0, 0, ev_t160) 14 L [] hc 0 0 (fun r' h' => r' = some (fi (b)) ∧ y_in yGw h' ∧ gi h' = m) := fun hc b L hw hm hL => by
    refine f_iln 0 rfl hL rfl ?_
    refine f_aln 2 rfl hL rfl ?_
    refine m_gfi so55 (m 55 1) rfl hw hm rfl rfl ?_
    refine f_ic rfl (by decide) (by omega) (fun _ => ?_) (fun c_9 => absurd (show (m 55 1 : Int) ≤ (5 : Int) from (by omega)) c_9)
    refine f_iln 1 rfl hL rfl ?_
    exact f_ret1 rfl ⟨rfl, hw, hm⟩
  have hK4 : ∀ (hc : ev_H) (b : Int) (L : ev_L), y_in yGw hc → gi hc = m → f_L L [(3, fi (4)), (2, fi (b)), (0, .ref 55), (1, fi (k))] → x_W none (1, 0, 6, 1, 11, 3, 66, 0, 0, ev_t160) 14 L [] hc 0 0 (fun r' h' => r' = some (fi (wm1 m k 4 4 (iS 1 4) (b))) ∧ y_in yGw h' ∧ gi h' = m) := fun hc b L hw hm hL => by
    refine f_iln 0 rfl hL rfl ?_
    refine f_aln 2 rfl hL rfl ?_
    refine m_gfi so55 (m 55 1) rfl hw hm rfl rfl ?_
    refine f_ic rfl (by decide) (by omega) (fun c1 => ?_) (fun c1 => ?_)
    · have c1 : (m 55 1 : Int) ≤ (4 : Int) := c1
      have e8 : wm1 m k 4 4 (iS 1 4) (b) = b := by unfold wm1; rw [if_neg (by omega)]
      rw [e8]
      refine f_iln 1 rfl hL rfl ?_
      exact f_ret1 rfl ⟨rfl, hw, hm⟩
    · have c1 : ¬ ((m 55 1 : Int) ≤ (4 : Int)) := c1
      have pp : (4 : Int) < m 55 1 := by omega
      have hI6_0 : ∀ (hc : ev_H) (L : ev_L), y_in yGw hc → gi hc = m → false = wmB m k 4 4 → f_L L [(5, fi (6)), (4, fi (0)), (3, fi (4)), (2, fi (b)), (0, .ref 55), (1, fi (k))] → x_W none (1, 0, 6, 1, 11, 3, 66, 0, 0, ev_t160) 54 L [] hc 0 0 (fun r' h' => r' = some (fi (wm1 m k 4 4 (iS 1 4) (b))) ∧ y_in yGw h' ∧ gi h' = m) := fun hc L hw hm hG hL => by
        refine f_il 0 rfl hL rfl ?_
        refine f_aln 4 rfl hL rfl ?_
        refine m_gfi so55 (m 55 21) rfl hw hm rfl rfl ?_
        refine f_ic rfl (by decide) (by omega) (fun _ => ?_) (fun c_9 => absurd (show (m 55 21 : Int) ≤ (6 : Int) from (by omega)) c_9)
        refine f_iln 3 rfl hL rfl ?_
        refine f_il 1 rfl hL rfl ?_
        refine f_if rfl (by decide) (fun _ => ?_) (fun c_9 => absurd (show (0 : Int) = (0 : Int) from (by decide)) c_9)
        refine f_s [fi (0), fi (b)] rfl rfl ?_
        refine b_ior rfl ?_
        refine f_istn [(2, fi (iO (b) (0))), (5, fi (6)), (4, fi (0)), (3, fi (4)), (0, .ref 55), (1, fi (k))] rfl (by decide) hL rfl (fun L1 hL1 => ?_)
        refine f_inc 3 [(3, fi (5)), (2, fi (iO (b) (0))), (5, fi (6)), (4, fi (0)), (0, .ref 55), (1, fi (k))] rfl (by decide) hL1 rfl rfl (fun L2 hL2 => ?_)
        refine f_goto rfl ?_
        have e9 : wm1 m k 4 4 (iS 1 4) b = iO (b) (0) := (if_pos pp).trans (by rw [← hG, if_neg (by decide)])
        rw [e9]
        exact hK5 hc _ _ hw hm (hL2.sel [0, 1, 4, 5] rfl)
      have hI6_1 : ∀ (hc : ev_H) (L : ev_L), y_in yGw hc → gi hc = m → true = wmB m k 4 4 → f_L L [(5, fi (6)), (4, fi (1)), (3, fi (4)), (2, fi (b)), (0, .ref 55), (1, fi (k))] → x_W none (1, 0, 6, 1, 11, 3, 66, 0, 0, ev_t160) 54 L [] hc 0 0 (fun r' h' => r' = some (fi (wm1 m k 4 4 (iS 1 4) (b))) ∧ y_in yGw h' ∧ gi h' = m) := fun hc L hw hm hG hL => by
        refine f_il 0 rfl hL rfl ?_
        refine f_aln 4 rfl hL rfl ?_
        refine m_gfi so55 (m 55 21) rfl hw hm rfl rfl ?_
        refine f_ic rfl (by decide) (by omega) (fun _ => ?_) (fun c_9 => absurd (show (m 55 21 : Int) ≤ (6 : Int) from (by omega)) c_9)
        refine f_iln 3 rfl hL rfl ?_
        refine f_il 1 rfl hL rfl ?_
        refine f_if rfl (by decide) (fun c_9 => absurd (show (1 : Int) = (0 : Int) from c_9) (by decide)) (fun _ => ?_)
        refine f_s [fi (1), fi (b)] rfl rfl ?_
        refine f_iln 2 rfl hL rfl ?_
        refine b_ishl rfl ?_
        refine f_goto rfl ?_
        refine b_ior rfl ?_
        refine f_istn [(2, fi (iO (b) (iS (1) (4)))), (5, fi (6)), (4, fi (1)), (3, fi (4)), (0, .ref 55), (1, fi (k))] rfl (by decide) hL rfl (fun L3 hL3 => ?_)
        refine f_inc 3 [(3, fi (5)), (2, fi (iO (b) (iS (1) (4)))), (5, fi (6)), (4, fi (1)), (0, .ref 55), (1, fi (k))] rfl (by decide) hL3 rfl rfl (fun L4 hL4 => ?_)
        refine f_goto rfl ?_
        have e9 : wm1 m k 4 4 (iS 1 4) b = iO (b) (iS (1) (4)) := (if_pos pp).trans (by rw [← hG, if_pos rfl])
        rw [e9]
        exact hK5 hc _ _ hw hm (hL4.sel [0, 1, 4, 5] rfl)
      have hI5_0 : ∀ (hc : ev_H) (L : ev_L), y_in yGw hc → gi hc = m → wmE m k 4 4 5 (false) = wmB m k 4 4 → f_L L [(5, fi (5)), (4, fi (0)), (3, fi (4)), (2, fi (b)), (0, .ref 55), (1, fi (k))] → x_W none (1, 0, 6, 1, 11, 3, 66, 0, 0, ev_t160) 54 L [] hc 0 0 (fun r' h' => r' = some (fi (wm1 m k 4 4 (iS 1 4) (b))) ∧ y_in yGw h' ∧ gi h' = m) := fun hc L hw hm hG hL => by
        refine f_il 0 rfl hL rfl ?_
        refine f_aln 4 rfl hL rfl ?_
        refine m_gfi so55 (m 55 21) rfl hw hm rfl rfl ?_
        refine f_ic rfl (by decide) (by omega) (fun ci => ?_) (fun ci => ?_)
        · have ci : (m 55 21 : Int) ≤ (5 : Int) := ci
          have e8 : wmE m k 4 4 5 (false) = false := by unfold wmE; rw [if_neg (by omega)]
          rw [e8] at hG
          refine f_iln 3 rfl hL rfl ?_
          refine f_il 1 rfl hL rfl ?_
          refine f_if rfl (by decide) (fun _ => ?_) (fun c_9 => absurd (show (0 : Int) = (0 : Int) from (by decide)) c_9)
          refine f_s [fi (0), fi (b)] rfl rfl ?_
          refine b_ior rfl ?_
          refine f_istn [(2, fi (iO (b) (0))), (5, fi (5)), (4, fi (0)), (3, fi (4)), (0, .ref 55), (1, fi (k))] rfl (by decide) hL rfl (fun L5 hL5 => ?_)
          refine f_inc 3 [(3, fi (5)), (2, fi (iO (b) (0))), (5, fi (5)), (4, fi (0)), (0, .ref 55), (1, fi (k))] rfl (by decide) hL5 rfl rfl (fun L6 hL6 => ?_)
          refine f_goto rfl ?_
          have e9 : wm1 m k 4 4 (iS 1 4) b = iO (b) (0) := (if_pos pp).trans (by rw [← hG, if_neg (by decide)])
          rw [e9]
          exact hK5 hc _ _ hw hm (hL6.sel [0, 1, 4, 5] rfl)
        · have ci : ¬ ((m 55 21 : Int) ≤ (5 : Int)) := ci
          refine f_il 1 rfl hL rfl ?_
          refine f_if rfl (by decide) (fun _ => ?_) (fun c_9 => absurd (show (0 : Int) = (0 : Int) from (by decide)) c_9)
          refine f_s [fi (0)] rfl rfl ?_
          refine f_ist [(4, fi (0)), (5, fi (5)), (3, fi (4)), (2, fi (b)), (0, .ref 55), (1, fi (k))] rfl (by decide) hL rfl (fun L7 hL7 => ?_)
          refine f_inc 1 [(5, fi (6)), (4, fi (0)), (3, fi (4)), (2, fi (b)), (0, .ref 55), (1, fi (k))] rfl (by decide) hL7 rfl rfl (fun L8 hL8 => ?_)
          refine f_goto rfl ?_
          have e9 : wmE m k 4 4 5 false = false := (if_pos (by omega)).trans (by rfl)
          rw [e9] at hG
          exact hI6_0 hc _ hw hm hG (hL8.sel [0, 1, 2, 3, 4, 5] rfl)
      have hI5_1 : ∀ (hc : ev_H) (L : ev_L), y_in yGw hc → gi hc = m → wmE m k 4 4 5 (true) = wmB m k 4 4 → f_L L [(5, fi (5)), (4, fi (1)), (3, fi (4)), (2, fi (b)), (0, .ref 55), (1, fi (k))] → x_W none (1, 0, 6, 1, 11, 3, 66, 0, 0, ev_t160) 54 L [] hc 0 0 (fun r' h' => r' = some (fi (wm1 m k 4 4 (iS 1 4) (b))) ∧ y_in yGw h' ∧ gi h' = m) := fun hc L hw hm hG hL => by
        refine f_il 0 rfl hL rfl ?_
        refine f_aln 4 rfl hL rfl ?_
        refine m_gfi so55 (m 55 21) rfl hw hm rfl rfl ?_
        refine f_ic rfl (by decide) (by omega) (fun ci => ?_) (fun ci => ?_)
        · have ci : (m 55 21 : Int) ≤ (5 : Int) := ci
          have e8 : wmE m k 4 4 5 (true) = true := by unfold wmE; rw [if_neg (by omega)]
          rw [e8] at hG
          refine f_iln 3 rfl hL rfl ?_
          refine f_il 1 rfl hL rfl ?_
          refine f_if rfl (by decide) (fun c_9 => absurd (show (1 : Int) = (0 : Int) from c_9) (by decide)) (fun _ => ?_)
          refine f_s [fi (1), fi (b)] rfl rfl ?_
          refine f_iln 2 rfl hL rfl ?_
          refine b_ishl rfl ?_
          refine f_goto rfl ?_
          refine b_ior rfl ?_
          refine f_istn [(2, fi (iO (b) (iS (1) (4)))), (5, fi (5)), (4, fi (1)), (3, fi (4)), (0, .ref 55), (1, fi (k))] rfl (by decide) hL rfl (fun L9 hL9 => ?_)
          refine f_inc 3 [(3, fi (5)), (2, fi (iO (b) (iS (1) (4)))), (5, fi (5)), (4, fi (1)), (0, .ref 55), (1, fi (k))] rfl (by decide) hL9 rfl rfl (fun L10 hL10 => ?_)
          refine f_goto rfl ?_
          have e9 : wm1 m k 4 4 (iS 1 4) b = iO (b) (iS (1) (4)) := (if_pos pp).trans (by rw [← hG, if_pos rfl])
          rw [e9]
          exact hK5 hc _ _ hw hm (hL10.sel [0, 1, 4, 5] rfl)
        · have ci : ¬ ((m 55 21 : Int) ≤ (5 : Int)) := ci
          refine f_il 1 rfl hL rfl ?_
          refine f_if rfl (by decide) (fun c_9 => absurd (show (1 : Int) = (0 : Int) from c_9) (by decide)) (fun _ => ?_)
          refine f_aln 4 rfl hL rfl ?_
          refine m_gfr so55 rfl hw rfl (by decide) ?_
          refine f_il 0 rfl hL rfl ?_
          refine m_ia sa67 (m 67 5) rfl hw hm (by omega) (by omega) (by decide) rfl ?_
          refine f_s [fi (5), fi (m 67 5)] rfl rfl ?_
          refine f_iln 5 rfl hL rfl ?_
          refine f_iadd rfl ?_
          refine f_ic rfl (hR 67 5) (by omega) (fun c2 => ?_) (fun c2 => ?_)
          · have c2 : ¬ (m 67 5 : Int) = (5 + k : Int) := c2
            refine f_s [fi (1)] rfl rfl ?_
            refine f_goto rfl ?_
            refine f_ist [(4, fi (1)), (5, fi (5)), (3, fi (4)), (2, fi (b)), (0, .ref 55), (1, fi (k))] rfl (by decide) hL rfl (fun L11 hL11 => ?_)
            refine f_inc 1 [(5, fi (6)), (4, fi (1)), (3, fi (4)), (2, fi (b)), (0, .ref 55), (1, fi (k))] rfl (by decide) hL11 rfl rfl (fun L12 hL12 => ?_)
            refine f_goto rfl ?_
            have e9 : wmE m k 4 4 5 true = true := (if_pos (by omega)).trans (by rw [decide_eq_true c2]; rfl)
            rw [e9] at hG
            exact hI6_1 hc _ hw hm hG (hL12.sel [0, 1, 2, 3, 4, 5] rfl)
          · have c2 : ¬ (¬ (m 67 5 : Int) = (5 + k : Int)) := c2
            refine f_aln 4 rfl hL rfl ?_
            refine f_s [fi (0), .ref 55] rfl rfl ?_
            refine f_iln 2 rfl hL rfl ?_
            refine f_aln 4 rfl hL rfl ?_
            refine m_gfr so55 rfl hw rfl (by decide) ?_
            refine f_il 0 rfl hL rfl ?_
            refine m_ia sa68 (m 68 5) rfl hw hm (by omega) (by omega) (by decide) rfl ?_
            refine m_k1 (t90_0 (p := 4) (h := m 68 5) (by decide) (by decide) (hR 68 5) (fv := m 58 4) rfl (hR 58 _) (uv := m 59 4) rfl (hR 59 _)) hw hm rfl rfl rfl (m_ar so55 hw rfl) rfl (fun hc1 hw1 hm1 => ?_)
            have c2 : m 67 5 = 5 + k := by omega
            refine f_if rfl (bI_r _) (fun c3 => ?_) (fun c3 => ?_)
            · have c3 : (bI (decide (¬ iA (iR (m 61 16) (4)) (1) = 1 ∧ m 58 4 ≤ m 68 5 ∧ m 68 5 ≤ m 59 4)) : Int) = (0 : Int) := c3
              have c3 : ¬ (¬ iA (iR (m 61 16) (4)) (1) = 1 ∧ m 58 4 ≤ m 68 5 ∧ m 68 5 ≤ m 59 4) := bI_f c3
              refine f_s [fi (0)] rfl rfl ?_
              refine f_ist [(4, fi (0)), (5, fi (5)), (3, fi (4)), (2, fi (b)), (0, .ref 55), (1, fi (k))] rfl (by decide) hL rfl (fun L13 hL13 => ?_)
              refine f_inc 1 [(5, fi (6)), (4, fi (0)), (3, fi (4)), (2, fi (b)), (0, .ref 55), (1, fi (k))] rfl (by decide) hL13 rfl rfl (fun L14 hL14 => ?_)
              refine f_goto rfl ?_
              have e9 : wmE m k 4 4 5 true = false := (if_pos (by omega)).trans (by rw [decide_eq_false (fun z => z c2), decide_eq_false c3]; rfl)
              rw [e9] at hG
              exact hI6_0 hc1 _ hw1 hm1 hG (hL14.sel [0, 1, 2, 3, 4, 5] rfl)
            · have c3 : ¬ ((bI (decide (¬ iA (iR (m 61 16) (4)) (1) = 1 ∧ m 58 4 ≤ m 68 5 ∧ m 68 5 ≤ m 59 4)) : Int) = (0 : Int)) := c3
              have c3 : ¬ iA (iR (m 61 16) (4)) (1) = 1 ∧ m 58 4 ≤ m 68 5 ∧ m 68 5 ≤ m 59 4 := bI_t c3
              refine f_aln 4 rfl hL rfl ?_
              refine f_iln 2 rfl hL rfl ?_
              refine f_aln 4 rfl hL rfl ?_
              refine m_gfr so55 rfl hw1 rfl (by decide) ?_
              refine f_il 0 rfl hL rfl ?_
              refine m_ia sa68 (m 68 5) rfl hw1 hm1 (by omega) (by omega) (by decide) rfl ?_
              refine m_k1 (show h_M 159 [.ref 55, fi (4), fi (m 68 5)] m (some (fi (bI (sn m 4 (m 68 5))))) m from se_sn m 4 (m 68 5) ▸ t159 ht (by decide) (hR 68 5)) hw1 hm1 rfl rfl rfl (m_ar so55 hw1 rfl) rfl (fun hc2 hw2 hm2 => ?_)
              refine f_if rfl (bI_r _) (fun c4 => ?_) (fun c4 => ?_)
              · have c4 : ¬ (bI (sn m 4 (m 68 5)) : Int) = (0 : Int) := c4
                refine f_s [fi (0)] rfl rfl ?_
                refine f_ist [(4, fi (0)), (5, fi (5)), (3, fi (4)), (2, fi (b)), (0, .ref 55), (1, fi (k))] rfl (by decide) hL rfl (fun L15 hL15 => ?_)
                refine f_inc 1 [(5, fi (6)), (4, fi (0)), (3, fi (4)), (2, fi (b)), (0, .ref 55), (1, fi (k))] rfl (by decide) hL15 rfl rfl (fun L16 hL16 => ?_)
                refine f_goto rfl ?_
                have e9 : wmE m k 4 4 5 true = false := (if_pos (by omega)).trans (by rw [decide_eq_false (fun z => z c2), decide_eq_true c3, bI1 c4]; rfl)
                rw [e9] at hG
                exact hI6_0 hc2 _ hw2 hm2 hG (hL16.sel [0, 1, 2, 3, 4, 5] rfl)
              · have c4 : ¬ (¬ (bI (sn m 4 (m 68 5)) : Int) = (0 : Int)) := c4
                refine f_s [fi (1)] rfl rfl ?_
                refine f_goto rfl ?_
                refine f_ist [(4, fi (1)), (5, fi (5)), (3, fi (4)), (2, fi (b)), (0, .ref 55), (1, fi (k))] rfl (by decide) hL rfl (fun L17 hL17 => ?_)
                refine f_inc 1 [(5, fi (6)), (4, fi (1)), (3, fi (4)), (2, fi (b)), (0, .ref 55), (1, fi (k))] rfl (by decide) hL17 rfl rfl (fun L18 hL18 => ?_)
                refine f_goto rfl ?_
                have e9 : wmE m k 4 4 5 true = true := (if_pos (by omega)).trans (by rw [decide_eq_false (fun z => z c2), decide_eq_true c3, bI0 (Classical.byContradiction c4)]; rfl)
                rw [e9] at hG
                exact hI6_1 hc2 _ hw2 hm2 hG (hL18.sel [0, 1, 2, 3, 4, 5] rfl)
      have hI4_0 : ∀ (hc : ev_H) (L : ev_L), y_in yGw hc → gi hc = m → wmE m k 4 4 5 (wmE m k 4 4 4 (false)) = wmB m k 4 4 → f_L L [(5, fi (4)), (4, fi (0)), (3, fi (4)), (2, fi (b)), (0, .ref 55), (1, fi (k))] → x_W none (1, 0, 6, 1, 11, 3, 66, 0, 0, ev_t160) 54 L [] hc 0 0 (fun r' h' => r' = some (fi (wm1 m k 4 4 (iS 1 4) (b))) ∧ y_in yGw h' ∧ gi h' = m) := fun hc L hw hm hG hL => by
        refine f_il 0 rfl hL rfl ?_
        refine f_aln 4 rfl hL rfl ?_
        refine m_gfi so55 (m 55 21) rfl hw hm rfl rfl ?_
        refine f_ic rfl (by decide) (by omega) (fun ci => ?_) (fun ci => ?_)
        · have ci : (m 55 21 : Int) ≤ (4 : Int) := ci
          have e8 : wmE m k 4 4 5 (wmE m k 4 4 4 (false)) = false := by unfold wmE; rw [if_neg (by omega), if_neg (by omega)]
          rw [e8] at hG
          refine f_iln 3 rfl hL rfl ?_
          refine f_il 1 rfl hL rfl ?_
          refine f_if rfl (by decide) (fun _ => ?_) (fun c_9 => absurd (show (0 : Int) = (0 : Int) from (by decide)) c_9)
          refine f_s [fi (0), fi (b)] rfl rfl ?_
          refine b_ior rfl ?_
          refine f_istn [(2, fi (iO (b) (0))), (5, fi (4)), (4, fi (0)), (3, fi (4)), (0, .ref 55), (1, fi (k))] rfl (by decide) hL rfl (fun L19 hL19 => ?_)
          refine f_inc 3 [(3, fi (5)), (2, fi (iO (b) (0))), (5, fi (4)), (4, fi (0)), (0, .ref 55), (1, fi (k))] rfl (by decide) hL19 rfl rfl (fun L20 hL20 => ?_)
          refine f_goto rfl ?_
          have e9 : wm1 m k 4 4 (iS 1 4) b = iO (b) (0) := (if_pos pp).trans (by rw [← hG, if_neg (by decide)])
          rw [e9]
          exact hK5 hc _ _ hw hm (hL20.sel [0, 1, 4, 5] rfl)
        · have ci : ¬ ((m 55 21 : Int) ≤ (4 : Int)) := ci
          refine f_il 1 rfl hL rfl ?_
          refine f_if rfl (by decide) (fun _ => ?_) (fun c_9 => absurd (show (0 : Int) = (0 : Int) from (by decide)) c_9)
          refine f_s [fi (0)] rfl rfl ?_
          refine f_ist [(4, fi (0)), (5, fi (4)), (3, fi (4)), (2, fi (b)), (0, .ref 55), (1, fi (k))] rfl (by decide) hL rfl (fun L21 hL21 => ?_)
          refine f_inc 1 [(5, fi (5)), (4, fi (0)), (3, fi (4)), (2, fi (b)), (0, .ref 55), (1, fi (k))] rfl (by decide) hL21 rfl rfl (fun L22 hL22 => ?_)
          refine f_goto rfl ?_
          have e9 : wmE m k 4 4 4 false = false := (if_pos (by omega)).trans (by rfl)
          rw [e9] at hG
          exact hI5_0 hc _ hw hm hG (hL22.sel [0, 1, 2, 3, 4, 5] rfl)
      have hI4_1 : ∀ (hc : ev_H) (L : ev_L), y_in yGw hc → gi hc = m → wmE m k 4 4 5 (wmE m k 4 4 4 (true)) = wmB m k 4 4 → f_L L [(5, fi (4)), (4, fi (1)), (3, fi (4)), (2, fi (b)), (0, .ref 55), (1, fi (k))] → x_W none (1, 0, 6, 1, 11, 3, 66, 0, 0, ev_t160) 54 L [] hc 0 0 (fun r' h' => r' = some (fi (wm1 m k 4 4 (iS 1 4) (b))) ∧ y_in yGw h' ∧ gi h' = m) := fun hc L hw hm hG hL => by
        refine f_il 0 rfl hL rfl ?_
        refine f_aln 4 rfl hL rfl ?_
        refine m_gfi so55 (m 55 21) rfl hw hm rfl rfl ?_
        refine f_ic rfl (by decide) (by omega) (fun ci => ?_) (fun ci => ?_)
        · have ci : (m 55 21 : Int) ≤ (4 : Int) := ci
          have e8 : wmE m k 4 4 5 (wmE m k 4 4 4 (true)) = true := by unfold wmE; rw [if_neg (by omega), if_neg (by omega)]
          rw [e8] at hG
          refine f_iln 3 rfl hL rfl ?_
          refine f_il 1 rfl hL rfl ?_
          refine f_if rfl (by decide) (fun c_9 => absurd (show (1 : Int) = (0 : Int) from c_9) (by decide)) (fun _ => ?_)
          refine f_s [fi (1), fi (b)] rfl rfl ?_
          refine f_iln 2 rfl hL rfl ?_
          refine b_ishl rfl ?_
          refine f_goto rfl ?_
          refine b_ior rfl ?_
          refine f_istn [(2, fi (iO (b) (iS (1) (4)))), (5, fi (4)), (4, fi (1)), (3, fi (4)), (0, .ref 55), (1, fi (k))] rfl (by decide) hL rfl (fun L23 hL23 => ?_)
          refine f_inc 3 [(3, fi (5)), (2, fi (iO (b) (iS (1) (4)))), (5, fi (4)), (4, fi (1)), (0, .ref 55), (1, fi (k))] rfl (by decide) hL23 rfl rfl (fun L24 hL24 => ?_)
          refine f_goto rfl ?_
          have e9 : wm1 m k 4 4 (iS 1 4) b = iO (b) (iS (1) (4)) := (if_pos pp).trans (by rw [← hG, if_pos rfl])
          rw [e9]
          exact hK5 hc _ _ hw hm (hL24.sel [0, 1, 4, 5] rfl)
        · have ci : ¬ ((m 55 21 : Int) ≤ (4 : Int)) := ci
          refine f_il 1 rfl hL rfl ?_
          refine f_if rfl (by decide) (fun c_9 => absurd (show (1 : Int) = (0 : Int) from c_9) (by decide)) (fun _ => ?_)
          refine f_aln 4 rfl hL rfl ?_
          refine m_gfr so55 rfl hw rfl (by decide) ?_
          refine f_il 0 rfl hL rfl ?_
          refine m_ia sa67 (m 67 4) rfl hw hm (by omega) (by omega) (by decide) rfl ?_
          refine f_s [fi (5), fi (m 67 4)] rfl rfl ?_
          refine f_iln 5 rfl hL rfl ?_
          refine f_iadd rfl ?_
          refine f_ic rfl (hR 67 4) (by omega) (fun c2 => ?_) (fun c2 => ?_)
          · have c2 : ¬ (m 67 4 : Int) = (5 + k : Int) := c2
            refine f_s [fi (1)] rfl rfl ?_
            refine f_goto rfl ?_
            refine f_ist [(4, fi (1)), (5, fi (4)), (3, fi (4)), (2, fi (b)), (0, .ref 55), (1, fi (k))] rfl (by decide) hL rfl (fun L25 hL25 => ?_)
            refine f_inc 1 [(5, fi (5)), (4, fi (1)), (3, fi (4)), (2, fi (b)), (0, .ref 55), (1, fi (k))] rfl (by decide) hL25 rfl rfl (fun L26 hL26 => ?_)
            refine f_goto rfl ?_
            have e9 : wmE m k 4 4 4 true = true := (if_pos (by omega)).trans (by rw [decide_eq_true c2]; rfl)
            rw [e9] at hG
            exact hI5_1 hc _ hw hm hG (hL26.sel [0, 1, 2, 3, 4, 5] rfl)
          · have c2 : ¬ (¬ (m 67 4 : Int) = (5 + k : Int)) := c2
            refine f_aln 4 rfl hL rfl ?_
            refine f_s [fi (0), .ref 55] rfl rfl ?_
            refine f_iln 2 rfl hL rfl ?_
            refine f_aln 4 rfl hL rfl ?_
            refine m_gfr so55 rfl hw rfl (by decide) ?_
            refine f_il 0 rfl hL rfl ?_
            refine m_ia sa68 (m 68 4) rfl hw hm (by omega) (by omega) (by decide) rfl ?_
            refine m_k1 (t90_0 (p := 4) (h := m 68 4) (by decide) (by decide) (hR 68 4) (fv := m 58 4) rfl (hR 58 _) (uv := m 59 4) rfl (hR 59 _)) hw hm rfl rfl rfl (m_ar so55 hw rfl) rfl (fun hc3 hw3 hm3 => ?_)
            have c2 : m 67 4 = 5 + k := by omega
            refine f_if rfl (bI_r _) (fun c3 => ?_) (fun c3 => ?_)
            · have c3 : (bI (decide (¬ iA (iR (m 61 16) (4)) (1) = 1 ∧ m 58 4 ≤ m 68 4 ∧ m 68 4 ≤ m 59 4)) : Int) = (0 : Int) := c3
              have c3 : ¬ (¬ iA (iR (m 61 16) (4)) (1) = 1 ∧ m 58 4 ≤ m 68 4 ∧ m 68 4 ≤ m 59 4) := bI_f c3
              refine f_s [fi (0)] rfl rfl ?_
              refine f_ist [(4, fi (0)), (5, fi (4)), (3, fi (4)), (2, fi (b)), (0, .ref 55), (1, fi (k))] rfl (by decide) hL rfl (fun L27 hL27 => ?_)
              refine f_inc 1 [(5, fi (5)), (4, fi (0)), (3, fi (4)), (2, fi (b)), (0, .ref 55), (1, fi (k))] rfl (by decide) hL27 rfl rfl (fun L28 hL28 => ?_)
              refine f_goto rfl ?_
              have e9 : wmE m k 4 4 4 true = false := (if_pos (by omega)).trans (by rw [decide_eq_false (fun z => z c2), decide_eq_false c3]; rfl)
              rw [e9] at hG
              exact hI5_0 hc3 _ hw3 hm3 hG (hL28.sel [0, 1, 2, 3, 4, 5] rfl)
            · have c3 : ¬ ((bI (decide (¬ iA (iR (m 61 16) (4)) (1) = 1 ∧ m 58 4 ≤ m 68 4 ∧ m 68 4 ≤ m 59 4)) : Int) = (0 : Int)) := c3
              have c3 : ¬ iA (iR (m 61 16) (4)) (1) = 1 ∧ m 58 4 ≤ m 68 4 ∧ m 68 4 ≤ m 59 4 := bI_t c3
              refine f_aln 4 rfl hL rfl ?_
              refine f_iln 2 rfl hL rfl ?_
              refine f_aln 4 rfl hL rfl ?_
              refine m_gfr so55 rfl hw3 rfl (by decide) ?_
              refine f_il 0 rfl hL rfl ?_
              refine m_ia sa68 (m 68 4) rfl hw3 hm3 (by omega) (by omega) (by decide) rfl ?_
              refine m_k1 (show h_M 159 [.ref 55, fi (4), fi (m 68 4)] m (some (fi (bI (sn m 4 (m 68 4))))) m from se_sn m 4 (m 68 4) ▸ t159 ht (by decide) (hR 68 4)) hw3 hm3 rfl rfl rfl (m_ar so55 hw3 rfl) rfl (fun hc4 hw4 hm4 => ?_)
              refine f_if rfl (bI_r _) (fun c4 => ?_) (fun c4 => ?_)
              · have c4 : ¬ (bI (sn m 4 (m 68 4)) : Int) = (0 : Int) := c4
                refine f_s [fi (0)] rfl rfl ?_
                refine f_ist [(4, fi (0)), (5, fi (4)), (3, fi (4)), (2, fi (b)), (0, .ref 55), (1, fi (k))] rfl (by decide) hL rfl (fun L29 hL29 => ?_)
                refine f_inc 1 [(5, fi (5)), (4, fi (0)), (3, fi (4)), (2, fi (b)), (0, .ref 55), (1, fi (k))] rfl (by decide) hL29 rfl rfl (fun L30 hL30 => ?_)
                refine f_goto rfl ?_
                have e9 : wmE m k 4 4 4 true = false := (if_pos (by omega)).trans (by rw [decide_eq_false (fun z => z c2), decide_eq_true c3, bI1 c4]; rfl)
                rw [e9] at hG
                exact hI5_0 hc4 _ hw4 hm4 hG (hL30.sel [0, 1, 2, 3, 4, 5] rfl)
              · have c4 : ¬ (¬ (bI (sn m 4 (m 68 4)) : Int) = (0 : Int)) := c4
                refine f_s [fi (1)] rfl rfl ?_
                refine f_goto rfl ?_
                refine f_ist [(4, fi (1)), (5, fi (4)), (3, fi (4)), (2, fi (b)), (0, .ref 55), (1, fi (k))] rfl (by decide) hL rfl (fun L31 hL31 => ?_)
                refine f_inc 1 [(5, fi (5)), (4, fi (1)), (3, fi (4)), (2, fi (b)), (0, .ref 55), (1, fi (k))] rfl (by decide) hL31 rfl rfl (fun L32 hL32 => ?_)
                refine f_goto rfl ?_
                have e9 : wmE m k 4 4 4 true = true := (if_pos (by omega)).trans (by rw [decide_eq_false (fun z => z c2), decide_eq_true c3, bI0 (Classical.byContradiction c4)]; rfl)
                rw [e9] at hG
                exact hI5_1 hc4 _ hw4 hm4 hG (hL32.sel [0, 1, 2, 3, 4, 5] rfl)
      have hI3_0 : ∀ (hc : ev_H) (L : ev_L), y_in yGw hc → gi hc = m → wmE m k 4 4 5 (wmE m k 4 4 4 (wmE m k 4 4 3 (false))) = wmB m k 4 4 → f_L L [(5, fi (3)), (4, fi (0)), (3, fi (4)), (2, fi (b)), (0, .ref 55), (1, fi (k))] → x_W none (1, 0, 6, 1, 11, 3, 66, 0, 0, ev_t160) 54 L [] hc 0 0 (fun r' h' => r' = some (fi (wm1 m k 4 4 (iS 1 4) (b))) ∧ y_in yGw h' ∧ gi h' = m) := fun hc L hw hm hG hL => by
        refine f_il 0 rfl hL rfl ?_
        refine f_aln 4 rfl hL rfl ?_
        refine m_gfi so55 (m 55 21) rfl hw hm rfl rfl ?_
        refine f_ic rfl (by decide) (by omega) (fun ci => ?_) (fun ci => ?_)
        · have ci : (m 55 21 : Int) ≤ (3 : Int) := ci
          have e8 : wmE m k 4 4 5 (wmE m k 4 4 4 (wmE m k 4 4 3 (false))) = false := by unfold wmE; rw [if_neg (by omega), if_neg (by omega), if_neg (by omega)]
          rw [e8] at hG
          refine f_iln 3 rfl hL rfl ?_
          refine f_il 1 rfl hL rfl ?_
          refine f_if rfl (by decide) (fun _ => ?_) (fun c_9 => absurd (show (0 : Int) = (0 : Int) from (by decide)) c_9)
          refine f_s [fi (0), fi (b)] rfl rfl ?_
          refine b_ior rfl ?_
          refine f_istn [(2, fi (iO (b) (0))), (5, fi (3)), (4, fi (0)), (3, fi (4)), (0, .ref 55), (1, fi (k))] rfl (by decide) hL rfl (fun L33 hL33 => ?_)
          refine f_inc 3 [(3, fi (5)), (2, fi (iO (b) (0))), (5, fi (3)), (4, fi (0)), (0, .ref 55), (1, fi (k))] rfl (by decide) hL33 rfl rfl (fun L34 hL34 => ?_)
          refine f_goto rfl ?_
          have e9 : wm1 m k 4 4 (iS 1 4) b = iO (b) (0) := (if_pos pp).trans (by rw [← hG, if_neg (by decide)])
          rw [e9]
          exact hK5 hc _ _ hw hm (hL34.sel [0, 1, 4, 5] rfl)
        · have ci : ¬ ((m 55 21 : Int) ≤ (3 : Int)) := ci
          refine f_il 1 rfl hL rfl ?_
          refine f_if rfl (by decide) (fun _ => ?_) (fun c_9 => absurd (show (0 : Int) = (0 : Int) from (by decide)) c_9)
          refine f_s [fi (0)] rfl rfl ?_
          refine f_ist [(4, fi (0)), (5, fi (3)), (3, fi (4)), (2, fi (b)), (0, .ref 55), (1, fi (k))] rfl (by decide) hL rfl (fun L35 hL35 => ?_)
          refine f_inc 1 [(5, fi (4)), (4, fi (0)), (3, fi (4)), (2, fi (b)), (0, .ref 55), (1, fi (k))] rfl (by decide) hL35 rfl rfl (fun L36 hL36 => ?_)
          refine f_goto rfl ?_
          have e9 : wmE m k 4 4 3 false = false := (if_pos (by omega)).trans (by rfl)
          rw [e9] at hG
          exact hI4_0 hc _ hw hm hG (hL36.sel [0, 1, 2, 3, 4, 5] rfl)
      have hI3_1 : ∀ (hc : ev_H) (L : ev_L), y_in yGw hc → gi hc = m → wmE m k 4 4 5 (wmE m k 4 4 4 (wmE m k 4 4 3 (true))) = wmB m k 4 4 → f_L L [(5, fi (3)), (4, fi (1)), (3, fi (4)), (2, fi (b)), (0, .ref 55), (1, fi (k))] → x_W none (1, 0, 6, 1, 11, 3, 66, 0, 0, ev_t160) 54 L [] hc 0 0 (fun r' h' => r' = some (fi (wm1 m k 4 4 (iS 1 4) (b))) ∧ y_in yGw h' ∧ gi h' = m) := fun hc L hw hm hG hL => by
        refine f_il 0 rfl hL rfl ?_
        refine f_aln 4 rfl hL rfl ?_
        refine m_gfi so55 (m 55 21) rfl hw hm rfl rfl ?_
        refine f_ic rfl (by decide) (by omega) (fun ci => ?_) (fun ci => ?_)
        · have ci : (m 55 21 : Int) ≤ (3 : Int) := ci
          have e8 : wmE m k 4 4 5 (wmE m k 4 4 4 (wmE m k 4 4 3 (true))) = true := by unfold wmE; rw [if_neg (by omega), if_neg (by omega), if_neg (by omega)]
          rw [e8] at hG
          refine f_iln 3 rfl hL rfl ?_
          refine f_il 1 rfl hL rfl ?_
          refine f_if rfl (by decide) (fun c_9 => absurd (show (1 : Int) = (0 : Int) from c_9) (by decide)) (fun _ => ?_)
          refine f_s [fi (1), fi (b)] rfl rfl ?_
          refine f_iln 2 rfl hL rfl ?_
          refine b_ishl rfl ?_
          refine f_goto rfl ?_
          refine b_ior rfl ?_
          refine f_istn [(2, fi (iO (b) (iS (1) (4)))), (5, fi (3)), (4, fi (1)), (3, fi (4)), (0, .ref 55), (1, fi (k))] rfl (by decide) hL rfl (fun L37 hL37 => ?_)
          refine f_inc 3 [(3, fi (5)), (2, fi (iO (b) (iS (1) (4)))), (5, fi (3)), (4, fi (1)), (0, .ref 55), (1, fi (k))] rfl (by decide) hL37 rfl rfl (fun L38 hL38 => ?_)
          refine f_goto rfl ?_
          have e9 : wm1 m k 4 4 (iS 1 4) b = iO (b) (iS (1) (4)) := (if_pos pp).trans (by rw [← hG, if_pos rfl])
          rw [e9]
          exact hK5 hc _ _ hw hm (hL38.sel [0, 1, 4, 5] rfl)
        · have ci : ¬ ((m 55 21 : Int) ≤ (3 : Int)) := ci
          refine f_il 1 rfl hL rfl ?_
          refine f_if rfl (by decide) (fun c_9 => absurd (show (1 : Int) = (0 : Int) from c_9) (by decide)) (fun _ => ?_)
          refine f_aln 4 rfl hL rfl ?_
          refine m_gfr so55 rfl hw rfl (by decide) ?_
          refine f_il 0 rfl hL rfl ?_
          refine m_ia sa67 (m 67 3) rfl hw hm (by omega) (by omega) (by decide) rfl ?_
          refine f_s [fi (5), fi (m 67 3)] rfl rfl ?_
          refine f_iln 5 rfl hL rfl ?_
          refine f_iadd rfl ?_
          refine f_ic rfl (hR 67 3) (by omega) (fun c2 => ?_) (fun c2 => ?_)
          · have c2 : ¬ (m 67 3 : Int) = (5 + k : Int) := c2
            refine f_s [fi (1)] rfl rfl ?_
            refine f_goto rfl ?_
            refine f_ist [(4, fi (1)), (5, fi (3)), (3, fi (4)), (2, fi (b)), (0, .ref 55), (1, fi (k))] rfl (by decide) hL rfl (fun L39 hL39 => ?_)
            refine f_inc 1 [(5, fi (4)), (4, fi (1)), (3, fi (4)), (2, fi (b)), (0, .ref 55), (1, fi (k))] rfl (by decide) hL39 rfl rfl (fun L40 hL40 => ?_)
            refine f_goto rfl ?_
            have e9 : wmE m k 4 4 3 true = true := (if_pos (by omega)).trans (by rw [decide_eq_true c2]; rfl)
            rw [e9] at hG
            exact hI4_1 hc _ hw hm hG (hL40.sel [0, 1, 2, 3, 4, 5] rfl)
          · have c2 : ¬ (¬ (m 67 3 : Int) = (5 + k : Int)) := c2
            refine f_aln 4 rfl hL rfl ?_
            refine f_s [fi (0), .ref 55] rfl rfl ?_
            refine f_iln 2 rfl hL rfl ?_
            refine f_aln 4 rfl hL rfl ?_
            refine m_gfr so55 rfl hw rfl (by decide) ?_
            refine f_il 0 rfl hL rfl ?_
            refine m_ia sa68 (m 68 3) rfl hw hm (by omega) (by omega) (by decide) rfl ?_
            refine m_k1 (t90_0 (p := 4) (h := m 68 3) (by decide) (by decide) (hR 68 3) (fv := m 58 4) rfl (hR 58 _) (uv := m 59 4) rfl (hR 59 _)) hw hm rfl rfl rfl (m_ar so55 hw rfl) rfl (fun hc5 hw5 hm5 => ?_)
            have c2 : m 67 3 = 5 + k := by omega
            refine f_if rfl (bI_r _) (fun c3 => ?_) (fun c3 => ?_)
            · have c3 : (bI (decide (¬ iA (iR (m 61 16) (4)) (1) = 1 ∧ m 58 4 ≤ m 68 3 ∧ m 68 3 ≤ m 59 4)) : Int) = (0 : Int) := c3
              have c3 : ¬ (¬ iA (iR (m 61 16) (4)) (1) = 1 ∧ m 58 4 ≤ m 68 3 ∧ m 68 3 ≤ m 59 4) := bI_f c3
              refine f_s [fi (0)] rfl rfl ?_
              refine f_ist [(4, fi (0)), (5, fi (3)), (3, fi (4)), (2, fi (b)), (0, .ref 55), (1, fi (k))] rfl (by decide) hL rfl (fun L41 hL41 => ?_)
              refine f_inc 1 [(5, fi (4)), (4, fi (0)), (3, fi (4)), (2, fi (b)), (0, .ref 55), (1, fi (k))] rfl (by decide) hL41 rfl rfl (fun L42 hL42 => ?_)
              refine f_goto rfl ?_
              have e9 : wmE m k 4 4 3 true = false := (if_pos (by omega)).trans (by rw [decide_eq_false (fun z => z c2), decide_eq_false c3]; rfl)
              rw [e9] at hG
              exact hI4_0 hc5 _ hw5 hm5 hG (hL42.sel [0, 1, 2, 3, 4, 5] rfl)
            · have c3 : ¬ ((bI (decide (¬ iA (iR (m 61 16) (4)) (1) = 1 ∧ m 58 4 ≤ m 68 3 ∧ m 68 3 ≤ m 59 4)) : Int) = (0 : Int)) := c3
              have c3 : ¬ iA (iR (m 61 16) (4)) (1) = 1 ∧ m 58 4 ≤ m 68 3 ∧ m 68 3 ≤ m 59 4 := bI_t c3
              refine f_aln 4 rfl hL rfl ?_
              refine f_iln 2 rfl hL rfl ?_
              refine f_aln 4 rfl hL rfl ?_
              refine m_gfr so55 rfl hw5 rfl (by decide) ?_
              refine f_il 0 rfl hL rfl ?_
              refine m_ia sa68 (m 68 3) rfl hw5 hm5 (by omega) (by omega) (by decide) rfl ?_
              refine m_k1 (show h_M 159 [.ref 55, fi (4), fi (m 68 3)] m (some (fi (bI (sn m 4 (m 68 3))))) m from se_sn m 4 (m 68 3) ▸ t159 ht (by decide) (hR 68 3)) hw5 hm5 rfl rfl rfl (m_ar so55 hw5 rfl) rfl (fun hc6 hw6 hm6 => ?_)
              refine f_if rfl (bI_r _) (fun c4 => ?_) (fun c4 => ?_)
              · have c4 : ¬ (bI (sn m 4 (m 68 3)) : Int) = (0 : Int) := c4
                refine f_s [fi (0)] rfl rfl ?_
                refine f_ist [(4, fi (0)), (5, fi (3)), (3, fi (4)), (2, fi (b)), (0, .ref 55), (1, fi (k))] rfl (by decide) hL rfl (fun L43 hL43 => ?_)
                refine f_inc 1 [(5, fi (4)), (4, fi (0)), (3, fi (4)), (2, fi (b)), (0, .ref 55), (1, fi (k))] rfl (by decide) hL43 rfl rfl (fun L44 hL44 => ?_)
                refine f_goto rfl ?_
                have e9 : wmE m k 4 4 3 true = false := (if_pos (by omega)).trans (by rw [decide_eq_false (fun z => z c2), decide_eq_true c3, bI1 c4]; rfl)
                rw [e9] at hG
                exact hI4_0 hc6 _ hw6 hm6 hG (hL44.sel [0, 1, 2, 3, 4, 5] rfl)
              · have c4 : ¬ (¬ (bI (sn m 4 (m 68 3)) : Int) = (0 : Int)) := c4
                refine f_s [fi (1)] rfl rfl ?_
                refine f_goto rfl ?_
                refine f_ist [(4, fi (1)), (5, fi (3)), (3, fi (4)), (2, fi (b)), (0, .ref 55), (1, fi (k))] rfl (by decide) hL rfl (fun L45 hL45 => ?_)
                refine f_inc 1 [(5, fi (4)), (4, fi (1)), (3, fi (4)), (2, fi (b)), (0, .ref 55), (1, fi (k))] rfl (by decide) hL45 rfl rfl (fun L46 hL46 => ?_)
                refine f_goto rfl ?_
                have e9 : wmE m k 4 4 3 true = true := (if_pos (by omega)).trans (by rw [decide_eq_false (fun z => z c2), decide_eq_true c3, bI0 (Classical.byContradiction c4)]; rfl)
                rw [e9] at hG
                exact hI4_1 hc6 _ hw6 hm6 hG (hL46.sel [0, 1, 2, 3, 4, 5] rfl)
      have hI2_0 : ∀ (hc : ev_H) (L : ev_L), y_in yGw hc → gi hc = m → wmE m k 4 4 5 (wmE m k 4 4 4 (wmE m k 4 4 3 (wmE m k 4 4 2 (false)))) = wmB m k 4 4 → f_L L [(5, fi (2)), (4, fi (0)), (3, fi (4)), (2, fi (b)), (0, .ref 55), (1, fi (k))] → x_W none (1, 0, 6, 1, 11, 3, 66, 0, 0, ev_t160) 54 L [] hc 0 0 (fun r' h' => r' = some (fi (wm1 m k 4 4 (iS 1 4) (b))) ∧ y_in yGw h' ∧ gi h' = m) := fun hc L hw hm hG hL => by
        refine f_il 0 rfl hL rfl ?_
        refine f_aln 4 rfl hL rfl ?_
        refine m_gfi so55 (m 55 21) rfl hw hm rfl rfl ?_
        refine f_ic rfl (by decide) (by omega) (fun ci => ?_) (fun ci => ?_)
        · have ci : (m 55 21 : Int) ≤ (2 : Int) := ci
          have e8 : wmE m k 4 4 5 (wmE m k 4 4 4 (wmE m k 4 4 3 (wmE m k 4 4 2 (false)))) = false := by unfold wmE; rw [if_neg (by omega), if_neg (by omega), if_neg (by omega), if_neg (by omega)]
          rw [e8] at hG
          refine f_iln 3 rfl hL rfl ?_
          refine f_il 1 rfl hL rfl ?_
          refine f_if rfl (by decide) (fun _ => ?_) (fun c_9 => absurd (show (0 : Int) = (0 : Int) from (by decide)) c_9)
          refine f_s [fi (0), fi (b)] rfl rfl ?_
          refine b_ior rfl ?_
          refine f_istn [(2, fi (iO (b) (0))), (5, fi (2)), (4, fi (0)), (3, fi (4)), (0, .ref 55), (1, fi (k))] rfl (by decide) hL rfl (fun L47 hL47 => ?_)
          refine f_inc 3 [(3, fi (5)), (2, fi (iO (b) (0))), (5, fi (2)), (4, fi (0)), (0, .ref 55), (1, fi (k))] rfl (by decide) hL47 rfl rfl (fun L48 hL48 => ?_)
          refine f_goto rfl ?_
          have e9 : wm1 m k 4 4 (iS 1 4) b = iO (b) (0) := (if_pos pp).trans (by rw [← hG, if_neg (by decide)])
          rw [e9]
          exact hK5 hc _ _ hw hm (hL48.sel [0, 1, 4, 5] rfl)
        · have ci : ¬ ((m 55 21 : Int) ≤ (2 : Int)) := ci
          refine f_il 1 rfl hL rfl ?_
          refine f_if rfl (by decide) (fun _ => ?_) (fun c_9 => absurd (show (0 : Int) = (0 : Int) from (by decide)) c_9)
          refine f_s [fi (0)] rfl rfl ?_
          refine f_ist [(4, fi (0)), (5, fi (2)), (3, fi (4)), (2, fi (b)), (0, .ref 55), (1, fi (k))] rfl (by decide) hL rfl (fun L49 hL49 => ?_)
          refine f_inc 1 [(5, fi (3)), (4, fi (0)), (3, fi (4)), (2, fi (b)), (0, .ref 55), (1, fi (k))] rfl (by decide) hL49 rfl rfl (fun L50 hL50 => ?_)
          refine f_goto rfl ?_
          have e9 : wmE m k 4 4 2 false = false := (if_pos (by omega)).trans (by rfl)
          rw [e9] at hG
          exact hI3_0 hc _ hw hm hG (hL50.sel [0, 1, 2, 3, 4, 5] rfl)
      have hI2_1 : ∀ (hc : ev_H) (L : ev_L), y_in yGw hc → gi hc = m → wmE m k 4 4 5 (wmE m k 4 4 4 (wmE m k 4 4 3 (wmE m k 4 4 2 (true)))) = wmB m k 4 4 → f_L L [(5, fi (2)), (4, fi (1)), (3, fi (4)), (2, fi (b)), (0, .ref 55), (1, fi (k))] → x_W none (1, 0, 6, 1, 11, 3, 66, 0, 0, ev_t160) 54 L [] hc 0 0 (fun r' h' => r' = some (fi (wm1 m k 4 4 (iS 1 4) (b))) ∧ y_in yGw h' ∧ gi h' = m) := fun hc L hw hm hG hL => by
        refine f_il 0 rfl hL rfl ?_
        refine f_aln 4 rfl hL rfl ?_
        refine m_gfi so55 (m 55 21) rfl hw hm rfl rfl ?_
        refine f_ic rfl (by decide) (by omega) (fun ci => ?_) (fun ci => ?_)
        · have ci : (m 55 21 : Int) ≤ (2 : Int) := ci
          have e8 : wmE m k 4 4 5 (wmE m k 4 4 4 (wmE m k 4 4 3 (wmE m k 4 4 2 (true)))) = true := by unfold wmE; rw [if_neg (by omega), if_neg (by omega), if_neg (by omega), if_neg (by omega)]
          rw [e8] at hG
          refine f_iln 3 rfl hL rfl ?_
          refine f_il 1 rfl hL rfl ?_
          refine f_if rfl (by decide) (fun c_9 => absurd (show (1 : Int) = (0 : Int) from c_9) (by decide)) (fun _ => ?_)
          refine f_s [fi (1), fi (b)] rfl rfl ?_
          refine f_iln 2 rfl hL rfl ?_
          refine b_ishl rfl ?_
          refine f_goto rfl ?_
          refine b_ior rfl ?_
          refine f_istn [(2, fi (iO (b) (iS (1) (4)))), (5, fi (2)), (4, fi (1)), (3, fi (4)), (0, .ref 55), (1, fi (k))] rfl (by decide) hL rfl (fun L51 hL51 => ?_)
          refine f_inc 3 [(3, fi (5)), (2, fi (iO (b) (iS (1) (4)))), (5, fi (2)), (4, fi (1)), (0, .ref 55), (1, fi (k))] rfl (by decide) hL51 rfl rfl (fun L52 hL52 => ?_)
          refine f_goto rfl ?_
          have e9 : wm1 m k 4 4 (iS 1 4) b = iO (b) (iS (1) (4)) := (if_pos pp).trans (by rw [← hG, if_pos rfl])
          rw [e9]
          exact hK5 hc _ _ hw hm (hL52.sel [0, 1, 4, 5] rfl)
        · have ci : ¬ ((m 55 21 : Int) ≤ (2 : Int)) := ci
          refine f_il 1 rfl hL rfl ?_
          refine f_if rfl (by decide) (fun c_9 => absurd (show (1 : Int) = (0 : Int) from c_9) (by decide)) (fun _ => ?_)
          refine f_aln 4 rfl hL rfl ?_
          refine m_gfr so55 rfl hw rfl (by decide) ?_
          refine f_il 0 rfl hL rfl ?_
          refine m_ia sa67 (m 67 2) rfl hw hm (by omega) (by omega) (by decide) rfl ?_
          refine f_s [fi (5), fi (m 67 2)] rfl rfl ?_
          refine f_iln 5 rfl hL rfl ?_
          refine f_iadd rfl ?_
          refine f_ic rfl (hR 67 2) (by omega) (fun c2 => ?_) (fun c2 => ?_)
          · have c2 : ¬ (m 67 2 : Int) = (5 + k : Int) := c2
            refine f_s [fi (1)] rfl rfl ?_
            refine f_goto rfl ?_
            refine f_ist [(4, fi (1)), (5, fi (2)), (3, fi (4)), (2, fi (b)), (0, .ref 55), (1, fi (k))] rfl (by decide) hL rfl (fun L53 hL53 => ?_)
            refine f_inc 1 [(5, fi (3)), (4, fi (1)), (3, fi (4)), (2, fi (b)), (0, .ref 55), (1, fi (k))] rfl (by decide) hL53 rfl rfl (fun L54 hL54 => ?_)
            refine f_goto rfl ?_
            have e9 : wmE m k 4 4 2 true = true := (if_pos (by omega)).trans (by rw [decide_eq_true c2]; rfl)
            rw [e9] at hG
            exact hI3_1 hc _ hw hm hG (hL54.sel [0, 1, 2, 3, 4, 5] rfl)
          · have c2 : ¬ (¬ (m 67 2 : Int) = (5 + k : Int)) := c2
            refine f_aln 4 rfl hL rfl ?_
            refine f_s [fi (0), .ref 55] rfl rfl ?_
            refine f_iln 2 rfl hL rfl ?_
            refine f_aln 4 rfl hL rfl ?_
            refine m_gfr so55 rfl hw rfl (by decide) ?_
            refine f_il 0 rfl hL rfl ?_
            refine m_ia sa68 (m 68 2) rfl hw hm (by omega) (by omega) (by decide) rfl ?_
            refine m_k1 (t90_0 (p := 4) (h := m 68 2) (by decide) (by decide) (hR 68 2) (fv := m 58 4) rfl (hR 58 _) (uv := m 59 4) rfl (hR 59 _)) hw hm rfl rfl rfl (m_ar so55 hw rfl) rfl (fun hc7 hw7 hm7 => ?_)
            have c2 : m 67 2 = 5 + k := by omega
            refine f_if rfl (bI_r _) (fun c3 => ?_) (fun c3 => ?_)
            · have c3 : (bI (decide (¬ iA (iR (m 61 16) (4)) (1) = 1 ∧ m 58 4 ≤ m 68 2 ∧ m 68 2 ≤ m 59 4)) : Int) = (0 : Int) := c3
              have c3 : ¬ (¬ iA (iR (m 61 16) (4)) (1) = 1 ∧ m 58 4 ≤ m 68 2 ∧ m 68 2 ≤ m 59 4) := bI_f c3
              refine f_s [fi (0)] rfl rfl ?_
              refine f_ist [(4, fi (0)), (5, fi (2)), (3, fi (4)), (2, fi (b)), (0, .ref 55), (1, fi (k))] rfl (by decide) hL rfl (fun L55 hL55 => ?_)
              refine f_inc 1 [(5, fi (3)), (4, fi (0)), (3, fi (4)), (2, fi (b)), (0, .ref 55), (1, fi (k))] rfl (by decide) hL55 rfl rfl (fun L56 hL56 => ?_)
              refine f_goto rfl ?_
              have e9 : wmE m k 4 4 2 true = false := (if_pos (by omega)).trans (by rw [decide_eq_false (fun z => z c2), decide_eq_false c3]; rfl)
              rw [e9] at hG
              exact hI3_0 hc7 _ hw7 hm7 hG (hL56.sel [0, 1, 2, 3, 4, 5] rfl)
            · have c3 : ¬ ((bI (decide (¬ iA (iR (m 61 16) (4)) (1) = 1 ∧ m 58 4 ≤ m 68 2 ∧ m 68 2 ≤ m 59 4)) : Int) = (0 : Int)) := c3
              have c3 : ¬ iA (iR (m 61 16) (4)) (1) = 1 ∧ m 58 4 ≤ m 68 2 ∧ m 68 2 ≤ m 59 4 := bI_t c3
              refine f_aln 4 rfl hL rfl ?_
              refine f_iln 2 rfl hL rfl ?_
              refine f_aln 4 rfl hL rfl ?_
              refine m_gfr so55 rfl hw7 rfl (by decide) ?_
              refine f_il 0 rfl hL rfl ?_
              refine m_ia sa68 (m 68 2) rfl hw7 hm7 (by omega) (by omega) (by decide) rfl ?_
              refine m_k1 (show h_M 159 [.ref 55, fi (4), fi (m 68 2)] m (some (fi (bI (sn m 4 (m 68 2))))) m from se_sn m 4 (m 68 2) ▸ t159 ht (by decide) (hR 68 2)) hw7 hm7 rfl rfl rfl (m_ar so55 hw7 rfl) rfl (fun hc8 hw8 hm8 => ?_)
              refine f_if rfl (bI_r _) (fun c4 => ?_) (fun c4 => ?_)
              · have c4 : ¬ (bI (sn m 4 (m 68 2)) : Int) = (0 : Int) := c4
                refine f_s [fi (0)] rfl rfl ?_
                refine f_ist [(4, fi (0)), (5, fi (2)), (3, fi (4)), (2, fi (b)), (0, .ref 55), (1, fi (k))] rfl (by decide) hL rfl (fun L57 hL57 => ?_)
                refine f_inc 1 [(5, fi (3)), (4, fi (0)), (3, fi (4)), (2, fi (b)), (0, .ref 55), (1, fi (k))] rfl (by decide) hL57 rfl rfl (fun L58 hL58 => ?_)
                refine f_goto rfl ?_
                have e9 : wmE m k 4 4 2 true = false := (if_pos (by omega)).trans (by rw [decide_eq_false (fun z => z c2), decide_eq_true c3, bI1 c4]; rfl)
                rw [e9] at hG
                exact hI3_0 hc8 _ hw8 hm8 hG (hL58.sel [0, 1, 2, 3, 4, 5] rfl)
              · have c4 : ¬ (¬ (bI (sn m 4 (m 68 2)) : Int) = (0 : Int)) := c4
                refine f_s [fi (1)] rfl rfl ?_
                refine f_goto rfl ?_
                refine f_ist [(4, fi (1)), (5, fi (2)), (3, fi (4)), (2, fi (b)), (0, .ref 55), (1, fi (k))] rfl (by decide) hL rfl (fun L59 hL59 => ?_)
                refine f_inc 1 [(5, fi (3)), (4, fi (1)), (3, fi (4)), (2, fi (b)), (0, .ref 55), (1, fi (k))] rfl (by decide) hL59 rfl rfl (fun L60 hL60 => ?_)
                refine f_goto rfl ?_
                have e9 : wmE m k 4 4 2 true = true := (if_pos (by omega)).trans (by rw [decide_eq_false (fun z => z c2), decide_eq_true c3, bI0 (Classical.byContradiction c4)]; rfl)
                rw [e9] at hG
                exact hI3_1 hc8 _ hw8 hm8 hG (hL60.sel [0, 1, 2, 3, 4, 5] rfl)
      have hI1_0 : ∀ (hc : ev_H) (L : ev_L), y_in yGw hc → gi hc = m → wmE m k 4 4 5 (wmE m k 4 4 4 (wmE m k 4 4 3 (wmE m k 4 4 2 (wmE m k 4 4 1 (false))))) = wmB m k 4 4 → f_L L [(5, fi (1)), (4, fi (0)), (3, fi (4)), (2, fi (b)), (0, .ref 55), (1, fi (k))] → x_W none (1, 0, 6, 1, 11, 3, 66, 0, 0, ev_t160) 54 L [] hc 0 0 (fun r' h' => r' = some (fi (wm1 m k 4 4 (iS 1 4) (b))) ∧ y_in yGw h' ∧ gi h' = m) := fun hc L hw hm hG hL => by
        refine f_il 0 rfl hL rfl ?_
        refine f_aln 4 rfl hL rfl ?_
        refine m_gfi so55 (m 55 21) rfl hw hm rfl rfl ?_
        refine f_ic rfl (by decide) (by omega) (fun ci => ?_) (fun ci => ?_)
        · have ci : (m 55 21 : Int) ≤ (1 : Int) := ci
          have e8 : wmE m k 4 4 5 (wmE m k 4 4 4 (wmE m k 4 4 3 (wmE m k 4 4 2 (wmE m k 4 4 1 (false))))) = false := by unfold wmE; rw [if_neg (by omega), if_neg (by omega), if_neg (by omega), if_neg (by omega), if_neg (by omega)]
          rw [e8] at hG
          refine f_iln 3 rfl hL rfl ?_
          refine f_il 1 rfl hL rfl ?_
          refine f_if rfl (by decide) (fun _ => ?_) (fun c_9 => absurd (show (0 : Int) = (0 : Int) from (by decide)) c_9)
          refine f_s [fi (0), fi (b)] rfl rfl ?_
          refine b_ior rfl ?_
          refine f_istn [(2, fi (iO (b) (0))), (5, fi (1)), (4, fi (0)), (3, fi (4)), (0, .ref 55), (1, fi (k))] rfl (by decide) hL rfl (fun L61 hL61 => ?_)
          refine f_inc 3 [(3, fi (5)), (2, fi (iO (b) (0))), (5, fi (1)), (4, fi (0)), (0, .ref 55), (1, fi (k))] rfl (by decide) hL61 rfl rfl (fun L62 hL62 => ?_)
          refine f_goto rfl ?_
          have e9 : wm1 m k 4 4 (iS 1 4) b = iO (b) (0) := (if_pos pp).trans (by rw [← hG, if_neg (by decide)])
          rw [e9]
          exact hK5 hc _ _ hw hm (hL62.sel [0, 1, 4, 5] rfl)
        · have ci : ¬ ((m 55 21 : Int) ≤ (1 : Int)) := ci
          refine f_il 1 rfl hL rfl ?_
          refine f_if rfl (by decide) (fun _ => ?_) (fun c_9 => absurd (show (0 : Int) = (0 : Int) from (by decide)) c_9)
          refine f_s [fi (0)] rfl rfl ?_
          refine f_ist [(4, fi (0)), (5, fi (1)), (3, fi (4)), (2, fi (b)), (0, .ref 55), (1, fi (k))] rfl (by decide) hL rfl (fun L63 hL63 => ?_)
          refine f_inc 1 [(5, fi (2)), (4, fi (0)), (3, fi (4)), (2, fi (b)), (0, .ref 55), (1, fi (k))] rfl (by decide) hL63 rfl rfl (fun L64 hL64 => ?_)
          refine f_goto rfl ?_
          have e9 : wmE m k 4 4 1 false = false := (if_pos (by omega)).trans (by rfl)
          rw [e9] at hG
          exact hI2_0 hc _ hw hm hG (hL64.sel [0, 1, 2, 3, 4, 5] rfl)
      have hI1_1 : ∀ (hc : ev_H) (L : ev_L), y_in yGw hc → gi hc = m → wmE m k 4 4 5 (wmE m k 4 4 4 (wmE m k 4 4 3 (wmE m k 4 4 2 (wmE m k 4 4 1 (true))))) = wmB m k 4 4 → f_L L [(5, fi (1)), (4, fi (1)), (3, fi (4)), (2, fi (b)), (0, .ref 55), (1, fi (k))] → x_W none (1, 0, 6, 1, 11, 3, 66, 0, 0, ev_t160) 54 L [] hc 0 0 (fun r' h' => r' = some (fi (wm1 m k 4 4 (iS 1 4) (b))) ∧ y_in yGw h' ∧ gi h' = m) := fun hc L hw hm hG hL => by
        refine f_il 0 rfl hL rfl ?_
        refine f_aln 4 rfl hL rfl ?_
        refine m_gfi so55 (m 55 21) rfl hw hm rfl rfl ?_
        refine f_ic rfl (by decide) (by omega) (fun ci => ?_) (fun ci => ?_)
        · have ci : (m 55 21 : Int) ≤ (1 : Int) := ci
          have e8 : wmE m k 4 4 5 (wmE m k 4 4 4 (wmE m k 4 4 3 (wmE m k 4 4 2 (wmE m k 4 4 1 (true))))) = true := by unfold wmE; rw [if_neg (by omega), if_neg (by omega), if_neg (by omega), if_neg (by omega), if_neg (by omega)]
          rw [e8] at hG
          refine f_iln 3 rfl hL rfl ?_
          refine f_il 1 rfl hL rfl ?_
          refine f_if rfl (by decide) (fun c_9 => absurd (show (1 : Int) = (0 : Int) from c_9) (by decide)) (fun _ => ?_)
          refine f_s [fi (1), fi (b)] rfl rfl ?_
          refine f_iln 2 rfl hL rfl ?_
          refine b_ishl rfl ?_
          refine f_goto rfl ?_
          refine b_ior rfl ?_
          refine f_istn [(2, fi (iO (b) (iS (1) (4)))), (5, fi (1)), (4, fi (1)), (3, fi (4)), (0, .ref 55), (1, fi (k))] rfl (by decide) hL rfl (fun L65 hL65 => ?_)
          refine f_inc 3 [(3, fi (5)), (2, fi (iO (b) (iS (1) (4)))), (5, fi (1)), (4, fi (1)), (0, .ref 55), (1, fi (k))] rfl (by decide) hL65 rfl rfl (fun L66 hL66 => ?_)
          refine f_goto rfl ?_
          have e9 : wm1 m k 4 4 (iS 1 4) b = iO (b) (iS (1) (4)) := (if_pos pp).trans (by rw [← hG, if_pos rfl])
          rw [e9]
          exact hK5 hc _ _ hw hm (hL66.sel [0, 1, 4, 5] rfl)
        · have ci : ¬ ((m 55 21 : Int) ≤ (1 : Int)) := ci
          refine f_il 1 rfl hL rfl ?_
          refine f_if rfl (by decide) (fun c_9 => absurd (show (1 : Int) = (0 : Int) from c_9) (by decide)) (fun _ => ?_)
          refine f_aln 4 rfl hL rfl ?_
          refine m_gfr so55 rfl hw rfl (by decide) ?_
          refine f_il 0 rfl hL rfl ?_
          refine m_ia sa67 (m 67 1) rfl hw hm (by omega) (by omega) (by decide) rfl ?_
          refine f_s [fi (5), fi (m 67 1)] rfl rfl ?_
          refine f_iln 5 rfl hL rfl ?_
          refine f_iadd rfl ?_
          refine f_ic rfl (hR 67 1) (by omega) (fun c2 => ?_) (fun c2 => ?_)
          · have c2 : ¬ (m 67 1 : Int) = (5 + k : Int) := c2
            refine f_s [fi (1)] rfl rfl ?_
            refine f_goto rfl ?_
            refine f_ist [(4, fi (1)), (5, fi (1)), (3, fi (4)), (2, fi (b)), (0, .ref 55), (1, fi (k))] rfl (by decide) hL rfl (fun L67 hL67 => ?_)
            refine f_inc 1 [(5, fi (2)), (4, fi (1)), (3, fi (4)), (2, fi (b)), (0, .ref 55), (1, fi (k))] rfl (by decide) hL67 rfl rfl (fun L68 hL68 => ?_)
            refine f_goto rfl ?_
            have e9 : wmE m k 4 4 1 true = true := (if_pos (by omega)).trans (by rw [decide_eq_true c2]; rfl)
            rw [e9] at hG
            exact hI2_1 hc _ hw hm hG (hL68.sel [0, 1, 2, 3, 4, 5] rfl)
          · have c2 : ¬ (¬ (m 67 1 : Int) = (5 + k : Int)) := c2
            refine f_aln 4 rfl hL rfl ?_
            refine f_s [fi (0), .ref 55] rfl rfl ?_
            refine f_iln 2 rfl hL rfl ?_
            refine f_aln 4 rfl hL rfl ?_
            refine m_gfr so55 rfl hw rfl (by decide) ?_
            refine f_il 0 rfl hL rfl ?_
            refine m_ia sa68 (m 68 1) rfl hw hm (by omega) (by omega) (by decide) rfl ?_
            refine m_k1 (t90_0 (p := 4) (h := m 68 1) (by decide) (by decide) (hR 68 1) (fv := m 58 4) rfl (hR 58 _) (uv := m 59 4) rfl (hR 59 _)) hw hm rfl rfl rfl (m_ar so55 hw rfl) rfl (fun hc9 hw9 hm9 => ?_)
            have c2 : m 67 1 = 5 + k := by omega
            refine f_if rfl (bI_r _) (fun c3 => ?_) (fun c3 => ?_)
            · have c3 : (bI (decide (¬ iA (iR (m 61 16) (4)) (1) = 1 ∧ m 58 4 ≤ m 68 1 ∧ m 68 1 ≤ m 59 4)) : Int) = (0 : Int) := c3
              have c3 : ¬ (¬ iA (iR (m 61 16) (4)) (1) = 1 ∧ m 58 4 ≤ m 68 1 ∧ m 68 1 ≤ m 59 4) := bI_f c3
              refine f_s [fi (0)] rfl rfl ?_
              refine f_ist [(4, fi (0)), (5, fi (1)), (3, fi (4)), (2, fi (b)), (0, .ref 55), (1, fi (k))] rfl (by decide) hL rfl (fun L69 hL69 => ?_)
              refine f_inc 1 [(5, fi (2)), (4, fi (0)), (3, fi (4)), (2, fi (b)), (0, .ref 55), (1, fi (k))] rfl (by decide) hL69 rfl rfl (fun L70 hL70 => ?_)
              refine f_goto rfl ?_
              have e9 : wmE m k 4 4 1 true = false := (if_pos (by omega)).trans (by rw [decide_eq_false (fun z => z c2), decide_eq_false c3]; rfl)
              rw [e9] at hG
              exact hI2_0 hc9 _ hw9 hm9 hG (hL70.sel [0, 1, 2, 3, 4, 5] rfl)
            · have c3 : ¬ ((bI (decide (¬ iA (iR (m 61 16) (4)) (1) = 1 ∧ m 58 4 ≤ m 68 1 ∧ m 68 1 ≤ m 59 4)) : Int) = (0 : Int)) := c3
              have c3 : ¬ iA (iR (m 61 16) (4)) (1) = 1 ∧ m 58 4 ≤ m 68 1 ∧ m 68 1 ≤ m 59 4 := bI_t c3
              refine f_aln 4 rfl hL rfl ?_
              refine f_iln 2 rfl hL rfl ?_
              refine f_aln 4 rfl hL rfl ?_
              refine m_gfr so55 rfl hw9 rfl (by decide) ?_
              refine f_il 0 rfl hL rfl ?_
              refine m_ia sa68 (m 68 1) rfl hw9 hm9 (by omega) (by omega) (by decide) rfl ?_
              refine m_k1 (show h_M 159 [.ref 55, fi (4), fi (m 68 1)] m (some (fi (bI (sn m 4 (m 68 1))))) m from se_sn m 4 (m 68 1) ▸ t159 ht (by decide) (hR 68 1)) hw9 hm9 rfl rfl rfl (m_ar so55 hw9 rfl) rfl (fun hc10 hw10 hm10 => ?_)
              refine f_if rfl (bI_r _) (fun c4 => ?_) (fun c4 => ?_)
              · have c4 : ¬ (bI (sn m 4 (m 68 1)) : Int) = (0 : Int) := c4
                refine f_s [fi (0)] rfl rfl ?_
                refine f_ist [(4, fi (0)), (5, fi (1)), (3, fi (4)), (2, fi (b)), (0, .ref 55), (1, fi (k))] rfl (by decide) hL rfl (fun L71 hL71 => ?_)
                refine f_inc 1 [(5, fi (2)), (4, fi (0)), (3, fi (4)), (2, fi (b)), (0, .ref 55), (1, fi (k))] rfl (by decide) hL71 rfl rfl (fun L72 hL72 => ?_)
                refine f_goto rfl ?_
                have e9 : wmE m k 4 4 1 true = false := (if_pos (by omega)).trans (by rw [decide_eq_false (fun z => z c2), decide_eq_true c3, bI1 c4]; rfl)
                rw [e9] at hG
                exact hI2_0 hc10 _ hw10 hm10 hG (hL72.sel [0, 1, 2, 3, 4, 5] rfl)
              · have c4 : ¬ (¬ (bI (sn m 4 (m 68 1)) : Int) = (0 : Int)) := c4
                refine f_s [fi (1)] rfl rfl ?_
                refine f_goto rfl ?_
                refine f_ist [(4, fi (1)), (5, fi (1)), (3, fi (4)), (2, fi (b)), (0, .ref 55), (1, fi (k))] rfl (by decide) hL rfl (fun L73 hL73 => ?_)
                refine f_inc 1 [(5, fi (2)), (4, fi (1)), (3, fi (4)), (2, fi (b)), (0, .ref 55), (1, fi (k))] rfl (by decide) hL73 rfl rfl (fun L74 hL74 => ?_)
                refine f_goto rfl ?_
                have e9 : wmE m k 4 4 1 true = true := (if_pos (by omega)).trans (by rw [decide_eq_false (fun z => z c2), decide_eq_true c3, bI0 (Classical.byContradiction c4)]; rfl)
                rw [e9] at hG
                exact hI2_1 hc10 _ hw10 hm10 hG (hL74.sel [0, 1, 2, 3, 4, 5] rfl)
      have hI0_0 : ∀ (hc : ev_H) (L : ev_L), y_in yGw hc → gi hc = m → wmE m k 4 4 5 (wmE m k 4 4 4 (wmE m k 4 4 3 (wmE m k 4 4 2 (wmE m k 4 4 1 (wmE m k 4 4 0 (false)))))) = wmB m k 4 4 → f_L L [(5, fi (0)), (4, fi (0)), (3, fi (4)), (2, fi (b)), (0, .ref 55), (1, fi (k))] → x_W none (1, 0, 6, 1, 11, 3, 66, 0, 0, ev_t160) 54 L [] hc 0 0 (fun r' h' => r' = some (fi (wm1 m k 4 4 (iS 1 4) (b))) ∧ y_in yGw h' ∧ gi h' = m) := fun hc L hw hm hG hL => by
        refine f_il 0 rfl hL rfl ?_
        refine f_aln 4 rfl hL rfl ?_
        refine m_gfi so55 (m 55 21) rfl hw hm rfl rfl ?_
        refine f_ic rfl (by decide) (by omega) (fun ci => ?_) (fun ci => ?_)
        · have ci : (m 55 21 : Int) ≤ (0 : Int) := ci
          have e8 : wmE m k 4 4 5 (wmE m k 4 4 4 (wmE m k 4 4 3 (wmE m k 4 4 2 (wmE m k 4 4 1 (wmE m k 4 4 0 (false)))))) = false := by unfold wmE; rw [if_neg (by omega), if_neg (by omega), if_neg (by omega), if_neg (by omega), if_neg (by omega), if_neg (by omega)]
          rw [e8] at hG
          refine f_iln 3 rfl hL rfl ?_
          refine f_il 1 rfl hL rfl ?_
          refine f_if rfl (by decide) (fun _ => ?_) (fun c_9 => absurd (show (0 : Int) = (0 : Int) from (by decide)) c_9)
          refine f_s [fi (0), fi (b)] rfl rfl ?_
          refine b_ior rfl ?_
          refine f_istn [(2, fi (iO (b) (0))), (5, fi (0)), (4, fi (0)), (3, fi (4)), (0, .ref 55), (1, fi (k))] rfl (by decide) hL rfl (fun L75 hL75 => ?_)
          refine f_inc 3 [(3, fi (5)), (2, fi (iO (b) (0))), (5, fi (0)), (4, fi (0)), (0, .ref 55), (1, fi (k))] rfl (by decide) hL75 rfl rfl (fun L76 hL76 => ?_)
          refine f_goto rfl ?_
          have e9 : wm1 m k 4 4 (iS 1 4) b = iO (b) (0) := (if_pos pp).trans (by rw [← hG, if_neg (by decide)])
          rw [e9]
          exact hK5 hc _ _ hw hm (hL76.sel [0, 1, 4, 5] rfl)
        · have ci : ¬ ((m 55 21 : Int) ≤ (0 : Int)) := ci
          refine f_il 1 rfl hL rfl ?_
          refine f_if rfl (by decide) (fun _ => ?_) (fun c_9 => absurd (show (0 : Int) = (0 : Int) from (by decide)) c_9)
          refine f_s [fi (0)] rfl rfl ?_
          refine f_ist [(4, fi (0)), (5, fi (0)), (3, fi (4)), (2, fi (b)), (0, .ref 55), (1, fi (k))] rfl (by decide) hL rfl (fun L77 hL77 => ?_)
          refine f_inc 1 [(5, fi (1)), (4, fi (0)), (3, fi (4)), (2, fi (b)), (0, .ref 55), (1, fi (k))] rfl (by decide) hL77 rfl rfl (fun L78 hL78 => ?_)
          refine f_goto rfl ?_
          have e9 : wmE m k 4 4 0 false = false := (if_pos (by omega)).trans (by rfl)
          rw [e9] at hG
          exact hI1_0 hc _ hw hm hG (hL78.sel [0, 1, 2, 3, 4, 5] rfl)
      have hI0_1 : ∀ (hc : ev_H) (L : ev_L), y_in yGw hc → gi hc = m → wmE m k 4 4 5 (wmE m k 4 4 4 (wmE m k 4 4 3 (wmE m k 4 4 2 (wmE m k 4 4 1 (wmE m k 4 4 0 (true)))))) = wmB m k 4 4 → f_L L [(5, fi (0)), (4, fi (1)), (3, fi (4)), (2, fi (b)), (0, .ref 55), (1, fi (k))] → x_W none (1, 0, 6, 1, 11, 3, 66, 0, 0, ev_t160) 54 L [] hc 0 0 (fun r' h' => r' = some (fi (wm1 m k 4 4 (iS 1 4) (b))) ∧ y_in yGw h' ∧ gi h' = m) := fun hc L hw hm hG hL => by
        refine f_il 0 rfl hL rfl ?_
        refine f_aln 4 rfl hL rfl ?_
        refine m_gfi so55 (m 55 21) rfl hw hm rfl rfl ?_
        refine f_ic rfl (by decide) (by omega) (fun ci => ?_) (fun ci => ?_)
        · have ci : (m 55 21 : Int) ≤ (0 : Int) := ci
          have e8 : wmE m k 4 4 5 (wmE m k 4 4 4 (wmE m k 4 4 3 (wmE m k 4 4 2 (wmE m k 4 4 1 (wmE m k 4 4 0 (true)))))) = true := by unfold wmE; rw [if_neg (by omega), if_neg (by omega), if_neg (by omega), if_neg (by omega), if_neg (by omega), if_neg (by omega)]
          rw [e8] at hG
          refine f_iln 3 rfl hL rfl ?_
          refine f_il 1 rfl hL rfl ?_
          refine f_if rfl (by decide) (fun c_9 => absurd (show (1 : Int) = (0 : Int) from c_9) (by decide)) (fun _ => ?_)
          refine f_s [fi (1), fi (b)] rfl rfl ?_
          refine f_iln 2 rfl hL rfl ?_
          refine b_ishl rfl ?_
          refine f_goto rfl ?_
          refine b_ior rfl ?_
          refine f_istn [(2, fi (iO (b) (iS (1) (4)))), (5, fi (0)), (4, fi (1)), (3, fi (4)), (0, .ref 55), (1, fi (k))] rfl (by decide) hL rfl (fun L79 hL79 => ?_)
          refine f_inc 3 [(3, fi (5)), (2, fi (iO (b) (iS (1) (4)))), (5, fi (0)), (4, fi (1)), (0, .ref 55), (1, fi (k))] rfl (by decide) hL79 rfl rfl (fun L80 hL80 => ?_)
          refine f_goto rfl ?_
          have e9 : wm1 m k 4 4 (iS 1 4) b = iO (b) (iS (1) (4)) := (if_pos pp).trans (by rw [← hG, if_pos rfl])
          rw [e9]
          exact hK5 hc _ _ hw hm (hL80.sel [0, 1, 4, 5] rfl)
        · have ci : ¬ ((m 55 21 : Int) ≤ (0 : Int)) := ci
          refine f_il 1 rfl hL rfl ?_
          refine f_if rfl (by decide) (fun c_9 => absurd (show (1 : Int) = (0 : Int) from c_9) (by decide)) (fun _ => ?_)
          refine f_aln 4 rfl hL rfl ?_
          refine m_gfr so55 rfl hw rfl (by decide) ?_
          refine f_il 0 rfl hL rfl ?_
          refine m_ia sa67 (m 67 0) rfl hw hm (by omega) (by omega) (by decide) rfl ?_
          refine f_s [fi (5), fi (m 67 0)] rfl rfl ?_
          refine f_iln 5 rfl hL rfl ?_
          refine f_iadd rfl ?_
          refine f_ic rfl (hR 67 0) (by omega) (fun c2 => ?_) (fun c2 => ?_)
          · have c2 : ¬ (m 67 0 : Int) = (5 + k : Int) := c2
            refine f_s [fi (1)] rfl rfl ?_
            refine f_goto rfl ?_
            refine f_ist [(4, fi (1)), (5, fi (0)), (3, fi (4)), (2, fi (b)), (0, .ref 55), (1, fi (k))] rfl (by decide) hL rfl (fun L81 hL81 => ?_)
            refine f_inc 1 [(5, fi (1)), (4, fi (1)), (3, fi (4)), (2, fi (b)), (0, .ref 55), (1, fi (k))] rfl (by decide) hL81 rfl rfl (fun L82 hL82 => ?_)
            refine f_goto rfl ?_
            have e9 : wmE m k 4 4 0 true = true := (if_pos (by omega)).trans (by rw [decide_eq_true c2]; rfl)
            rw [e9] at hG
            exact hI1_1 hc _ hw hm hG (hL82.sel [0, 1, 2, 3, 4, 5] rfl)
          · have c2 : ¬ (¬ (m 67 0 : Int) = (5 + k : Int)) := c2
            refine f_aln 4 rfl hL rfl ?_
            refine f_s [fi (0), .ref 55] rfl rfl ?_
            refine f_iln 2 rfl hL rfl ?_
            refine f_aln 4 rfl hL rfl ?_
            refine m_gfr so55 rfl hw rfl (by decide) ?_
            refine f_il 0 rfl hL rfl ?_
            refine m_ia sa68 (m 68 0) rfl hw hm (by omega) (by omega) (by decide) rfl ?_
            refine m_k1 (t90_0 (p := 4) (h := m 68 0) (by decide) (by decide) (hR 68 0) (fv := m 58 4) rfl (hR 58 _) (uv := m 59 4) rfl (hR 59 _)) hw hm rfl rfl rfl (m_ar so55 hw rfl) rfl (fun hc11 hw11 hm11 => ?_)
            have c2 : m 67 0 = 5 + k := by omega
            refine f_if rfl (bI_r _) (fun c3 => ?_) (fun c3 => ?_)
            · have c3 : (bI (decide (¬ iA (iR (m 61 16) (4)) (1) = 1 ∧ m 58 4 ≤ m 68 0 ∧ m 68 0 ≤ m 59 4)) : Int) = (0 : Int) := c3
              have c3 : ¬ (¬ iA (iR (m 61 16) (4)) (1) = 1 ∧ m 58 4 ≤ m 68 0 ∧ m 68 0 ≤ m 59 4) := bI_f c3
              refine f_s [fi (0)] rfl rfl ?_
              refine f_ist [(4, fi (0)), (5, fi (0)), (3, fi (4)), (2, fi (b)), (0, .ref 55), (1, fi (k))] rfl (by decide) hL rfl (fun L83 hL83 => ?_)
              refine f_inc 1 [(5, fi (1)), (4, fi (0)), (3, fi (4)), (2, fi (b)), (0, .ref 55), (1, fi (k))] rfl (by decide) hL83 rfl rfl (fun L84 hL84 => ?_)
              refine f_goto rfl ?_
              have e9 : wmE m k 4 4 0 true = false := (if_pos (by omega)).trans (by rw [decide_eq_false (fun z => z c2), decide_eq_false c3]; rfl)
              rw [e9] at hG
              exact hI1_0 hc11 _ hw11 hm11 hG (hL84.sel [0, 1, 2, 3, 4, 5] rfl)
            · have c3 : ¬ ((bI (decide (¬ iA (iR (m 61 16) (4)) (1) = 1 ∧ m 58 4 ≤ m 68 0 ∧ m 68 0 ≤ m 59 4)) : Int) = (0 : Int)) := c3
              have c3 : ¬ iA (iR (m 61 16) (4)) (1) = 1 ∧ m 58 4 ≤ m 68 0 ∧ m 68 0 ≤ m 59 4 := bI_t c3
              refine f_aln 4 rfl hL rfl ?_
              refine f_iln 2 rfl hL rfl ?_
              refine f_aln 4 rfl hL rfl ?_
              refine m_gfr so55 rfl hw11 rfl (by decide) ?_
              refine f_il 0 rfl hL rfl ?_
              refine m_ia sa68 (m 68 0) rfl hw11 hm11 (by omega) (by omega) (by decide) rfl ?_
              refine m_k1 (show h_M 159 [.ref 55, fi (4), fi (m 68 0)] m (some (fi (bI (sn m 4 (m 68 0))))) m from se_sn m 4 (m 68 0) ▸ t159 ht (by decide) (hR 68 0)) hw11 hm11 rfl rfl rfl (m_ar so55 hw11 rfl) rfl (fun hc12 hw12 hm12 => ?_)
              refine f_if rfl (bI_r _) (fun c4 => ?_) (fun c4 => ?_)
              · have c4 : ¬ (bI (sn m 4 (m 68 0)) : Int) = (0 : Int) := c4
                refine f_s [fi (0)] rfl rfl ?_
                refine f_ist [(4, fi (0)), (5, fi (0)), (3, fi (4)), (2, fi (b)), (0, .ref 55), (1, fi (k))] rfl (by decide) hL rfl (fun L85 hL85 => ?_)
                refine f_inc 1 [(5, fi (1)), (4, fi (0)), (3, fi (4)), (2, fi (b)), (0, .ref 55), (1, fi (k))] rfl (by decide) hL85 rfl rfl (fun L86 hL86 => ?_)
                refine f_goto rfl ?_
                have e9 : wmE m k 4 4 0 true = false := (if_pos (by omega)).trans (by rw [decide_eq_false (fun z => z c2), decide_eq_true c3, bI1 c4]; rfl)
                rw [e9] at hG
                exact hI1_0 hc12 _ hw12 hm12 hG (hL86.sel [0, 1, 2, 3, 4, 5] rfl)
              · have c4 : ¬ (¬ (bI (sn m 4 (m 68 0)) : Int) = (0 : Int)) := c4
                refine f_s [fi (1)] rfl rfl ?_
                refine f_goto rfl ?_
                refine f_ist [(4, fi (1)), (5, fi (0)), (3, fi (4)), (2, fi (b)), (0, .ref 55), (1, fi (k))] rfl (by decide) hL rfl (fun L87 hL87 => ?_)
                refine f_inc 1 [(5, fi (1)), (4, fi (1)), (3, fi (4)), (2, fi (b)), (0, .ref 55), (1, fi (k))] rfl (by decide) hL87 rfl rfl (fun L88 hL88 => ?_)
                refine f_goto rfl ?_
                have e9 : wmE m k 4 4 0 true = true := (if_pos (by omega)).trans (by rw [decide_eq_false (fun z => z c2), decide_eq_true c3, bI0 (Classical.byContradiction c4)]; rfl)
                rw [e9] at hG
                exact hI1_1 hc12 _ hw12 hm12 hG (hL88.sel [0, 1, 2, 3, 4, 5] rfl)
      refine f_aln 2 rfl hL rfl ?_
      refine f_s [fi (0), .ref 55] rfl rfl ?_
      refine f_iln 0 rfl hL rfl ?_
      refine m_k1 (t74_0 (by decide)) hw hm rfl rfl rfl (m_ar so55 hw rfl) rfl (fun hc13 hw13 hm13 => ?_)
      refine f_if rfl (bI_r _) (fun d1 => ?_) (fun d1 => ?_)
      · have d1 : ¬ (bI (decide (iA (iR (m 61 16) (4)) (1) = 1)) : Int) = (0 : Int) := d1
        have d1 : iA (iR (m 61 16) (4)) (1) = 1 := bI_t d1
        refine f_s [fi (0)] rfl rfl ?_
        refine f_ist [(4, fi (0)), (3, fi (4)), (2, fi (b)), (0, .ref 55), (1, fi (k))] rfl (by decide) hL rfl (fun L89 hL89 => ?_)
        refine f_s [fi (0)] rfl rfl ?_
        refine f_ist [(5, fi (0)), (4, fi (0)), (3, fi (4)), (2, fi (b)), (0, .ref 55), (1, fi (k))] rfl (by decide) hL89 rfl (fun L90 hL90 => ?_)
        have e7 : false = decide (¬ iA (iR (m 61 16) 4) 1 = 1 ∧ iA (iR (m 60 4) k) 1 = 1) := (decide_eq_false (fun z => z.1 d1)).symm
        exact hI0_0 hc13 _ hw13 hm13 (by rw [e7]; rfl) (hL90.sel [0, 1, 2, 3, 4, 5] rfl)
      · have d1 : ¬ (¬ (bI (decide (iA (iR (m 61 16) (4)) (1) = 1)) : Int) = (0 : Int)) := d1
        have d1 : ¬ (iA (iR (m 61 16) (4)) (1) = 1) := bI_n d1
        refine f_aln 2 rfl hL rfl ?_
        refine m_gfr so55 rfl hw13 rfl (by decide) ?_
        refine f_iln 0 rfl hL rfl ?_
        refine m_ia sa60 (m 60 4) rfl hw13 hm13 (by omega) (by omega) (by decide) rfl ?_
        refine f_iln 3 rfl hL rfl ?_
        refine m_k1 (t73 (hR 60 4) rk) hw13 hm13 rfl rfl rfl rfl rfl (fun hc14 hw14 hm14 => ?_)
        refine f_if rfl (bI_r _) (fun d2 => ?_) (fun d2 => ?_)
        · have d2 : (bI (decide (iA (iR (m 60 4) (k)) (1) = 1)) : Int) = (0 : Int) := d2
          have d2 : ¬ (iA (iR (m 60 4) (k)) (1) = 1) := bI_f d2
          refine f_s [fi (0)] rfl rfl ?_
          refine f_ist [(4, fi (0)), (3, fi (4)), (2, fi (b)), (0, .ref 55), (1, fi (k))] rfl (by decide) hL rfl (fun L91 hL91 => ?_)
          refine f_s [fi (0)] rfl rfl ?_
          refine f_ist [(5, fi (0)), (4, fi (0)), (3, fi (4)), (2, fi (b)), (0, .ref 55), (1, fi (k))] rfl (by decide) hL91 rfl (fun L92 hL92 => ?_)
          have e7 : false = decide (¬ iA (iR (m 61 16) 4) 1 = 1 ∧ iA (iR (m 60 4) k) 1 = 1) := (decide_eq_false (fun z => d2 z.2)).symm
          exact hI0_0 hc14 _ hw14 hm14 (by rw [e7]; rfl) (hL92.sel [0, 1, 2, 3, 4, 5] rfl)
        · have d2 : ¬ ((bI (decide (iA (iR (m 60 4) (k)) (1) = 1)) : Int) = (0 : Int)) := d2
          have d2 : iA (iR (m 60 4) (k)) (1) = 1 := bI_t d2
          refine f_s [fi (1)] rfl rfl ?_
          refine f_goto rfl ?_
          refine f_ist [(4, fi (1)), (3, fi (4)), (2, fi (b)), (0, .ref 55), (1, fi (k))] rfl (by decide) hL rfl (fun L93 hL93 => ?_)
          refine f_s [fi (0)] rfl rfl ?_
          refine f_ist [(5, fi (0)), (4, fi (1)), (3, fi (4)), (2, fi (b)), (0, .ref 55), (1, fi (k))] rfl (by decide) hL93 rfl (fun L94 hL94 => ?_)
          have e7 : true = decide (¬ iA (iR (m 61 16) 4) 1 = 1 ∧ iA (iR (m 60 4) k) 1 = 1) := (decide_eq_true ⟨d1, d2⟩).symm
          exact hI0_1 hc14 _ hw14 hm14 (by rw [e7]; rfl) (hL94.sel [0, 1, 2, 3, 4, 5] rfl)
  have hK3 : ∀ (hc : ev_H) (b : Int) (L : ev_L), y_in yGw hc → gi hc = m → f_L L [(3, fi (3)), (2, fi (b)), (0, .ref 55), (1, fi (k))] → x_W none (1, 0, 6, 1, 11, 3, 66, 0, 0, ev_t160) 14 L [] hc 0 0 (fun r' h' => r' = some (fi (wm1 m k 4 4 (iS 1 4) (wm1 m k 3 3 (iS 1 3) (b)))) ∧ y_in yGw h' ∧ gi h' = m) := fun hc b L hw hm hL => by
    refine f_iln 0 rfl hL rfl ?_
    refine f_aln 2 rfl hL rfl ?_
    refine m_gfi so55 (m 55 1) rfl hw hm rfl rfl ?_
    refine f_ic rfl (by decide) (by omega) (fun c1 => ?_) (fun c1 => ?_)
    · have c1 : (m 55 1 : Int) ≤ (3 : Int) := c1
      have e8 : wm1 m k 4 4 (iS 1 4) (wm1 m k 3 3 (iS 1 3) (b)) = b := by unfold wm1; rw [if_neg (by omega), if_neg (by omega)]
      rw [e8]
      refine f_iln 1 rfl hL rfl ?_
      exact f_ret1 rfl ⟨rfl, hw, hm⟩
    · have c1 : ¬ ((m 55 1 : Int) ≤ (3 : Int)) := c1
      have pp : (3 : Int) < m 55 1 := by omega
      have hI6_0 : ∀ (hc : ev_H) (L : ev_L), y_in yGw hc → gi hc = m → false = wmB m k 3 3 → f_L L [(5, fi (6)), (4, fi (0)), (3, fi (3)), (2, fi (b)), (0, .ref 55), (1, fi (k))] → x_W none (1, 0, 6, 1, 11, 3, 66, 0, 0, ev_t160) 54 L [] hc 0 0 (fun r' h' => r' = some (fi (wm1 m k 4 4 (iS 1 4) (wm1 m k 3 3 (iS 1 3) (b)))) ∧ y_in yGw h' ∧ gi h' = m) := fun hc L hw hm hG hL => by
        refine f_il 0 rfl hL rfl ?_
        refine f_aln 4 rfl hL rfl ?_
        refine m_gfi so55 (m 55 21) rfl hw hm rfl rfl ?_
        refine f_ic rfl (by decide) (by omega) (fun _ => ?_) (fun c_9 => absurd (show (m 55 21 : Int) ≤ (6 : Int) from (by omega)) c_9)
        refine f_iln 3 rfl hL rfl ?_
        refine f_il 1 rfl hL rfl ?_
        refine f_if rfl (by decide) (fun _ => ?_) (fun c_9 => absurd (show (0 : Int) = (0 : Int) from (by decide)) c_9)
        refine f_s [fi (0), fi (b)] rfl rfl ?_
        refine b_ior rfl ?_
        refine f_istn [(2, fi (iO (b) (0))), (5, fi (6)), (4, fi (0)), (3, fi (3)), (0, .ref 55), (1, fi (k))] rfl (by decide) hL rfl (fun L95 hL95 => ?_)
        refine f_inc 3 [(3, fi (4)), (2, fi (iO (b) (0))), (5, fi (6)), (4, fi (0)), (0, .ref 55), (1, fi (k))] rfl (by decide) hL95 rfl rfl (fun L96 hL96 => ?_)
        refine f_goto rfl ?_
        have e9 : wm1 m k 3 3 (iS 1 3) b = iO (b) (0) := (if_pos pp).trans (by rw [← hG, if_neg (by decide)])
        rw [e9]
        exact hK4 hc _ _ hw hm (hL96.sel [0, 1, 4, 5] rfl)
      have hI6_1 : ∀ (hc : ev_H) (L : ev_L), y_in yGw hc → gi hc = m → true = wmB m k 3 3 → f_L L [(5, fi (6)), (4, fi (1)), (3, fi (3)), (2, fi (b)), (0, .ref 55), (1, fi (k))] → x_W none (1, 0, 6, 1, 11, 3, 66, 0, 0, ev_t160) 54 L [] hc 0 0 (fun r' h' => r' = some (fi (wm1 m k 4 4 (iS 1 4) (wm1 m k 3 3 (iS 1 3) (b)))) ∧ y_in yGw h' ∧ gi h' = m) := fun hc L hw hm hG hL => by
        refine f_il 0 rfl hL rfl ?_
        refine f_aln 4 rfl hL rfl ?_
        refine m_gfi so55 (m 55 21) rfl hw hm rfl rfl ?_
        refine f_ic rfl (by decide) (by omega) (fun _ => ?_) (fun c_9 => absurd (show (m 55 21 : Int) ≤ (6 : Int) from (by omega)) c_9)
        refine f_iln 3 rfl hL rfl ?_
        refine f_il 1 rfl hL rfl ?_
        refine f_if rfl (by decide) (fun c_9 => absurd (show (1 : Int) = (0 : Int) from c_9) (by decide)) (fun _ => ?_)
        refine f_s [fi (1), fi (b)] rfl rfl ?_
        refine f_iln 2 rfl hL rfl ?_
        refine b_ishl rfl ?_
        refine f_goto rfl ?_
        refine b_ior rfl ?_
        refine f_istn [(2, fi (iO (b) (iS (1) (3)))), (5, fi (6)), (4, fi (1)), (3, fi (3)), (0, .ref 55), (1, fi (k))] rfl (by decide) hL rfl (fun L97 hL97 => ?_)
        refine f_inc 3 [(3, fi (4)), (2, fi (iO (b) (iS (1) (3)))), (5, fi (6)), (4, fi (1)), (0, .ref 55), (1, fi (k))] rfl (by decide) hL97 rfl rfl (fun L98 hL98 => ?_)
        refine f_goto rfl ?_
        have e9 : wm1 m k 3 3 (iS 1 3) b = iO (b) (iS (1) (3)) := (if_pos pp).trans (by rw [← hG, if_pos rfl])
        rw [e9]
        exact hK4 hc _ _ hw hm (hL98.sel [0, 1, 4, 5] rfl)
      have hI5_0 : ∀ (hc : ev_H) (L : ev_L), y_in yGw hc → gi hc = m → wmE m k 3 3 5 (false) = wmB m k 3 3 → f_L L [(5, fi (5)), (4, fi (0)), (3, fi (3)), (2, fi (b)), (0, .ref 55), (1, fi (k))] → x_W none (1, 0, 6, 1, 11, 3, 66, 0, 0, ev_t160) 54 L [] hc 0 0 (fun r' h' => r' = some (fi (wm1 m k 4 4 (iS 1 4) (wm1 m k 3 3 (iS 1 3) (b)))) ∧ y_in yGw h' ∧ gi h' = m) := fun hc L hw hm hG hL => by
        refine f_il 0 rfl hL rfl ?_
        refine f_aln 4 rfl hL rfl ?_
        refine m_gfi so55 (m 55 21) rfl hw hm rfl rfl ?_
        refine f_ic rfl (by decide) (by omega) (fun ci => ?_) (fun ci => ?_)
        · have ci : (m 55 21 : Int) ≤ (5 : Int) := ci
          have e8 : wmE m k 3 3 5 (false) = false := by unfold wmE; rw [if_neg (by omega)]
          rw [e8] at hG
          refine f_iln 3 rfl hL rfl ?_
          refine f_il 1 rfl hL rfl ?_
          refine f_if rfl (by decide) (fun _ => ?_) (fun c_9 => absurd (show (0 : Int) = (0 : Int) from (by decide)) c_9)
          refine f_s [fi (0), fi (b)] rfl rfl ?_
          refine b_ior rfl ?_
          refine f_istn [(2, fi (iO (b) (0))), (5, fi (5)), (4, fi (0)), (3, fi (3)), (0, .ref 55), (1, fi (k))] rfl (by decide) hL rfl (fun L99 hL99 => ?_)
          refine f_inc 3 [(3, fi (4)), (2, fi (iO (b) (0))), (5, fi (5)), (4, fi (0)), (0, .ref 55), (1, fi (k))] rfl (by decide) hL99 rfl rfl (fun L100 hL100 => ?_)
          refine f_goto rfl ?_
          have e9 : wm1 m k 3 3 (iS 1 3) b = iO (b) (0) := (if_pos pp).trans (by rw [← hG, if_neg (by decide)])
          rw [e9]
          exact hK4 hc _ _ hw hm (hL100.sel [0, 1, 4, 5] rfl)
        · have ci : ¬ ((m 55 21 : Int) ≤ (5 : Int)) := ci
          refine f_il 1 rfl hL rfl ?_
          refine f_if rfl (by decide) (fun _ => ?_) (fun c_9 => absurd (show (0 : Int) = (0 : Int) from (by decide)) c_9)
          refine f_s [fi (0)] rfl rfl ?_
          refine f_ist [(4, fi (0)), (5, fi (5)), (3, fi (3)), (2, fi (b)), (0, .ref 55), (1, fi (k))] rfl (by decide) hL rfl (fun L101 hL101 => ?_)
          refine f_inc 1 [(5, fi (6)), (4, fi (0)), (3, fi (3)), (2, fi (b)), (0, .ref 55), (1, fi (k))] rfl (by decide) hL101 rfl rfl (fun L102 hL102 => ?_)
          refine f_goto rfl ?_
          have e9 : wmE m k 3 3 5 false = false := (if_pos (by omega)).trans (by rfl)
          rw [e9] at hG
          exact hI6_0 hc _ hw hm hG (hL102.sel [0, 1, 2, 3, 4, 5] rfl)
      have hI5_1 : ∀ (hc : ev_H) (L : ev_L), y_in yGw hc → gi hc = m → wmE m k 3 3 5 (true) = wmB m k 3 3 → f_L L [(5, fi (5)), (4, fi (1)), (3, fi (3)), (2, fi (b)), (0, .ref 55), (1, fi (k))] → x_W none (1, 0, 6, 1, 11, 3, 66, 0, 0, ev_t160) 54 L [] hc 0 0 (fun r' h' => r' = some (fi (wm1 m k 4 4 (iS 1 4) (wm1 m k 3 3 (iS 1 3) (b)))) ∧ y_in yGw h' ∧ gi h' = m) := fun hc L hw hm hG hL => by
        refine f_il 0 rfl hL rfl ?_
        refine f_aln 4 rfl hL rfl ?_
        refine m_gfi so55 (m 55 21) rfl hw hm rfl rfl ?_
        refine f_ic rfl (by decide) (by omega) (fun ci => ?_) (fun ci => ?_)
        · have ci : (m 55 21 : Int) ≤ (5 : Int) := ci
          have e8 : wmE m k 3 3 5 (true) = true := by unfold wmE; rw [if_neg (by omega)]
          rw [e8] at hG
          refine f_iln 3 rfl hL rfl ?_
          refine f_il 1 rfl hL rfl ?_
          refine f_if rfl (by decide) (fun c_9 => absurd (show (1 : Int) = (0 : Int) from c_9) (by decide)) (fun _ => ?_)
          refine f_s [fi (1), fi (b)] rfl rfl ?_
          refine f_iln 2 rfl hL rfl ?_
          refine b_ishl rfl ?_
          refine f_goto rfl ?_
          refine b_ior rfl ?_
          refine f_istn [(2, fi (iO (b) (iS (1) (3)))), (5, fi (5)), (4, fi (1)), (3, fi (3)), (0, .ref 55), (1, fi (k))] rfl (by decide) hL rfl (fun L103 hL103 => ?_)
          refine f_inc 3 [(3, fi (4)), (2, fi (iO (b) (iS (1) (3)))), (5, fi (5)), (4, fi (1)), (0, .ref 55), (1, fi (k))] rfl (by decide) hL103 rfl rfl (fun L104 hL104 => ?_)
          refine f_goto rfl ?_
          have e9 : wm1 m k 3 3 (iS 1 3) b = iO (b) (iS (1) (3)) := (if_pos pp).trans (by rw [← hG, if_pos rfl])
          rw [e9]
          exact hK4 hc _ _ hw hm (hL104.sel [0, 1, 4, 5] rfl)
        · have ci : ¬ ((m 55 21 : Int) ≤ (5 : Int)) := ci
          refine f_il 1 rfl hL rfl ?_
          refine f_if rfl (by decide) (fun c_9 => absurd (show (1 : Int) = (0 : Int) from c_9) (by decide)) (fun _ => ?_)
          refine f_aln 4 rfl hL rfl ?_
          refine m_gfr so55 rfl hw rfl (by decide) ?_
          refine f_il 0 rfl hL rfl ?_
          refine m_ia sa67 (m 67 5) rfl hw hm (by omega) (by omega) (by decide) rfl ?_
          refine f_s [fi (5), fi (m 67 5)] rfl rfl ?_
          refine f_iln 5 rfl hL rfl ?_
          refine f_iadd rfl ?_
          refine f_ic rfl (hR 67 5) (by omega) (fun c2 => ?_) (fun c2 => ?_)
          · have c2 : ¬ (m 67 5 : Int) = (5 + k : Int) := c2
            refine f_s [fi (1)] rfl rfl ?_
            refine f_goto rfl ?_
            refine f_ist [(4, fi (1)), (5, fi (5)), (3, fi (3)), (2, fi (b)), (0, .ref 55), (1, fi (k))] rfl (by decide) hL rfl (fun L105 hL105 => ?_)
            refine f_inc 1 [(5, fi (6)), (4, fi (1)), (3, fi (3)), (2, fi (b)), (0, .ref 55), (1, fi (k))] rfl (by decide) hL105 rfl rfl (fun L106 hL106 => ?_)
            refine f_goto rfl ?_
            have e9 : wmE m k 3 3 5 true = true := (if_pos (by omega)).trans (by rw [decide_eq_true c2]; rfl)
            rw [e9] at hG
            exact hI6_1 hc _ hw hm hG (hL106.sel [0, 1, 2, 3, 4, 5] rfl)
          · have c2 : ¬ (¬ (m 67 5 : Int) = (5 + k : Int)) := c2
            refine f_aln 4 rfl hL rfl ?_
            refine f_s [fi (0), .ref 55] rfl rfl ?_
            refine f_iln 2 rfl hL rfl ?_
            refine f_aln 4 rfl hL rfl ?_
            refine m_gfr so55 rfl hw rfl (by decide) ?_
            refine f_il 0 rfl hL rfl ?_
            refine m_ia sa68 (m 68 5) rfl hw hm (by omega) (by omega) (by decide) rfl ?_
            refine m_k1 (t90_0 (p := 3) (h := m 68 5) (by decide) (by decide) (hR 68 5) (fv := m 58 3) rfl (hR 58 _) (uv := m 59 3) rfl (hR 59 _)) hw hm rfl rfl rfl (m_ar so55 hw rfl) rfl (fun hc15 hw15 hm15 => ?_)
            have c2 : m 67 5 = 5 + k := by omega
            refine f_if rfl (bI_r _) (fun c3 => ?_) (fun c3 => ?_)
            · have c3 : (bI (decide (¬ iA (iR (m 61 16) (3)) (1) = 1 ∧ m 58 3 ≤ m 68 5 ∧ m 68 5 ≤ m 59 3)) : Int) = (0 : Int) := c3
              have c3 : ¬ (¬ iA (iR (m 61 16) (3)) (1) = 1 ∧ m 58 3 ≤ m 68 5 ∧ m 68 5 ≤ m 59 3) := bI_f c3
              refine f_s [fi (0)] rfl rfl ?_
              refine f_ist [(4, fi (0)), (5, fi (5)), (3, fi (3)), (2, fi (b)), (0, .ref 55), (1, fi (k))] rfl (by decide) hL rfl (fun L107 hL107 => ?_)
              refine f_inc 1 [(5, fi (6)), (4, fi (0)), (3, fi (3)), (2, fi (b)), (0, .ref 55), (1, fi (k))] rfl (by decide) hL107 rfl rfl (fun L108 hL108 => ?_)
              refine f_goto rfl ?_
              have e9 : wmE m k 3 3 5 true = false := (if_pos (by omega)).trans (by rw [decide_eq_false (fun z => z c2), decide_eq_false c3]; rfl)
              rw [e9] at hG
              exact hI6_0 hc15 _ hw15 hm15 hG (hL108.sel [0, 1, 2, 3, 4, 5] rfl)
            · have c3 : ¬ ((bI (decide (¬ iA (iR (m 61 16) (3)) (1) = 1 ∧ m 58 3 ≤ m 68 5 ∧ m 68 5 ≤ m 59 3)) : Int) = (0 : Int)) := c3
              have c3 : ¬ iA (iR (m 61 16) (3)) (1) = 1 ∧ m 58 3 ≤ m 68 5 ∧ m 68 5 ≤ m 59 3 := bI_t c3
              refine f_aln 4 rfl hL rfl ?_
              refine f_iln 2 rfl hL rfl ?_
              refine f_aln 4 rfl hL rfl ?_
              refine m_gfr so55 rfl hw15 rfl (by decide) ?_
              refine f_il 0 rfl hL rfl ?_
              refine m_ia sa68 (m 68 5) rfl hw15 hm15 (by omega) (by omega) (by decide) rfl ?_
              refine m_k1 (show h_M 159 [.ref 55, fi (3), fi (m 68 5)] m (some (fi (bI (sn m 3 (m 68 5))))) m from se_sn m 3 (m 68 5) ▸ t159 ht (by decide) (hR 68 5)) hw15 hm15 rfl rfl rfl (m_ar so55 hw15 rfl) rfl (fun hc16 hw16 hm16 => ?_)
              refine f_if rfl (bI_r _) (fun c4 => ?_) (fun c4 => ?_)
              · have c4 : ¬ (bI (sn m 3 (m 68 5)) : Int) = (0 : Int) := c4
                refine f_s [fi (0)] rfl rfl ?_
                refine f_ist [(4, fi (0)), (5, fi (5)), (3, fi (3)), (2, fi (b)), (0, .ref 55), (1, fi (k))] rfl (by decide) hL rfl (fun L109 hL109 => ?_)
                refine f_inc 1 [(5, fi (6)), (4, fi (0)), (3, fi (3)), (2, fi (b)), (0, .ref 55), (1, fi (k))] rfl (by decide) hL109 rfl rfl (fun L110 hL110 => ?_)
                refine f_goto rfl ?_
                have e9 : wmE m k 3 3 5 true = false := (if_pos (by omega)).trans (by rw [decide_eq_false (fun z => z c2), decide_eq_true c3, bI1 c4]; rfl)
                rw [e9] at hG
                exact hI6_0 hc16 _ hw16 hm16 hG (hL110.sel [0, 1, 2, 3, 4, 5] rfl)
              · have c4 : ¬ (¬ (bI (sn m 3 (m 68 5)) : Int) = (0 : Int)) := c4
                refine f_s [fi (1)] rfl rfl ?_
                refine f_goto rfl ?_
                refine f_ist [(4, fi (1)), (5, fi (5)), (3, fi (3)), (2, fi (b)), (0, .ref 55), (1, fi (k))] rfl (by decide) hL rfl (fun L111 hL111 => ?_)
                refine f_inc 1 [(5, fi (6)), (4, fi (1)), (3, fi (3)), (2, fi (b)), (0, .ref 55), (1, fi (k))] rfl (by decide) hL111 rfl rfl (fun L112 hL112 => ?_)
                refine f_goto rfl ?_
                have e9 : wmE m k 3 3 5 true = true := (if_pos (by omega)).trans (by rw [decide_eq_false (fun z => z c2), decide_eq_true c3, bI0 (Classical.byContradiction c4)]; rfl)
                rw [e9] at hG
                exact hI6_1 hc16 _ hw16 hm16 hG (hL112.sel [0, 1, 2, 3, 4, 5] rfl)
      have hI4_0 : ∀ (hc : ev_H) (L : ev_L), y_in yGw hc → gi hc = m → wmE m k 3 3 5 (wmE m k 3 3 4 (false)) = wmB m k 3 3 → f_L L [(5, fi (4)), (4, fi (0)), (3, fi (3)), (2, fi (b)), (0, .ref 55), (1, fi (k))] → x_W none (1, 0, 6, 1, 11, 3, 66, 0, 0, ev_t160) 54 L [] hc 0 0 (fun r' h' => r' = some (fi (wm1 m k 4 4 (iS 1 4) (wm1 m k 3 3 (iS 1 3) (b)))) ∧ y_in yGw h' ∧ gi h' = m) := fun hc L hw hm hG hL => by
        refine f_il 0 rfl hL rfl ?_
        refine f_aln 4 rfl hL rfl ?_
        refine m_gfi so55 (m 55 21) rfl hw hm rfl rfl ?_
        refine f_ic rfl (by decide) (by omega) (fun ci => ?_) (fun ci => ?_)
        · have ci : (m 55 21 : Int) ≤ (4 : Int) := ci
          have e8 : wmE m k 3 3 5 (wmE m k 3 3 4 (false)) = false := by unfold wmE; rw [if_neg (by omega), if_neg (by omega)]
          rw [e8] at hG
          refine f_iln 3 rfl hL rfl ?_
          refine f_il 1 rfl hL rfl ?_
          refine f_if rfl (by decide) (fun _ => ?_) (fun c_9 => absurd (show (0 : Int) = (0 : Int) from (by decide)) c_9)
          refine f_s [fi (0), fi (b)] rfl rfl ?_
          refine b_ior rfl ?_
          refine f_istn [(2, fi (iO (b) (0))), (5, fi (4)), (4, fi (0)), (3, fi (3)), (0, .ref 55), (1, fi (k))] rfl (by decide) hL rfl (fun L113 hL113 => ?_)
          refine f_inc 3 [(3, fi (4)), (2, fi (iO (b) (0))), (5, fi (4)), (4, fi (0)), (0, .ref 55), (1, fi (k))] rfl (by decide) hL113 rfl rfl (fun L114 hL114 => ?_)
          refine f_goto rfl ?_
          have e9 : wm1 m k 3 3 (iS 1 3) b = iO (b) (0) := (if_pos pp).trans (by rw [← hG, if_neg (by decide)])
          rw [e9]
          exact hK4 hc _ _ hw hm (hL114.sel [0, 1, 4, 5] rfl)
        · have ci : ¬ ((m 55 21 : Int) ≤ (4 : Int)) := ci
          refine f_il 1 rfl hL rfl ?_
          refine f_if rfl (by decide) (fun _ => ?_) (fun c_9 => absurd (show (0 : Int) = (0 : Int) from (by decide)) c_9)
          refine f_s [fi (0)] rfl rfl ?_
          refine f_ist [(4, fi (0)), (5, fi (4)), (3, fi (3)), (2, fi (b)), (0, .ref 55), (1, fi (k))] rfl (by decide) hL rfl (fun L115 hL115 => ?_)
          refine f_inc 1 [(5, fi (5)), (4, fi (0)), (3, fi (3)), (2, fi (b)), (0, .ref 55), (1, fi (k))] rfl (by decide) hL115 rfl rfl (fun L116 hL116 => ?_)
          refine f_goto rfl ?_
          have e9 : wmE m k 3 3 4 false = false := (if_pos (by omega)).trans (by rfl)
          rw [e9] at hG
          exact hI5_0 hc _ hw hm hG (hL116.sel [0, 1, 2, 3, 4, 5] rfl)
      have hI4_1 : ∀ (hc : ev_H) (L : ev_L), y_in yGw hc → gi hc = m → wmE m k 3 3 5 (wmE m k 3 3 4 (true)) = wmB m k 3 3 → f_L L [(5, fi (4)), (4, fi (1)), (3, fi (3)), (2, fi (b)), (0, .ref 55), (1, fi (k))] → x_W none (1, 0, 6, 1, 11, 3, 66, 0, 0, ev_t160) 54 L [] hc 0 0 (fun r' h' => r' = some (fi (wm1 m k 4 4 (iS 1 4) (wm1 m k 3 3 (iS 1 3) (b)))) ∧ y_in yGw h' ∧ gi h' = m) := fun hc L hw hm hG hL => by
        refine f_il 0 rfl hL rfl ?_
        refine f_aln 4 rfl hL rfl ?_
        refine m_gfi so55 (m 55 21) rfl hw hm rfl rfl ?_
        refine f_ic rfl (by decide) (by omega) (fun ci => ?_) (fun ci => ?_)
        · have ci : (m 55 21 : Int) ≤ (4 : Int) := ci
          have e8 : wmE m k 3 3 5 (wmE m k 3 3 4 (true)) = true := by unfold wmE; rw [if_neg (by omega), if_neg (by omega)]
          rw [e8] at hG
          refine f_iln 3 rfl hL rfl ?_
          refine f_il 1 rfl hL rfl ?_
          refine f_if rfl (by decide) (fun c_9 => absurd (show (1 : Int) = (0 : Int) from c_9) (by decide)) (fun _ => ?_)
          refine f_s [fi (1), fi (b)] rfl rfl ?_
          refine f_iln 2 rfl hL rfl ?_
          refine b_ishl rfl ?_
          refine f_goto rfl ?_
          refine b_ior rfl ?_
          refine f_istn [(2, fi (iO (b) (iS (1) (3)))), (5, fi (4)), (4, fi (1)), (3, fi (3)), (0, .ref 55), (1, fi (k))] rfl (by decide) hL rfl (fun L117 hL117 => ?_)
          refine f_inc 3 [(3, fi (4)), (2, fi (iO (b) (iS (1) (3)))), (5, fi (4)), (4, fi (1)), (0, .ref 55), (1, fi (k))] rfl (by decide) hL117 rfl rfl (fun L118 hL118 => ?_)
          refine f_goto rfl ?_
          have e9 : wm1 m k 3 3 (iS 1 3) b = iO (b) (iS (1) (3)) := (if_pos pp).trans (by rw [← hG, if_pos rfl])
          rw [e9]
          exact hK4 hc _ _ hw hm (hL118.sel [0, 1, 4, 5] rfl)
        · have ci : ¬ ((m 55 21 : Int) ≤ (4 : Int)) := ci
          refine f_il 1 rfl hL rfl ?_
          refine f_if rfl (by decide) (fun c_9 => absurd (show (1 : Int) = (0 : Int) from c_9) (by decide)) (fun _ => ?_)
          refine f_aln 4 rfl hL rfl ?_
          refine m_gfr so55 rfl hw rfl (by decide) ?_
          refine f_il 0 rfl hL rfl ?_
          refine m_ia sa67 (m 67 4) rfl hw hm (by omega) (by omega) (by decide) rfl ?_
          refine f_s [fi (5), fi (m 67 4)] rfl rfl ?_
          refine f_iln 5 rfl hL rfl ?_
          refine f_iadd rfl ?_
          refine f_ic rfl (hR 67 4) (by omega) (fun c2 => ?_) (fun c2 => ?_)
          · have c2 : ¬ (m 67 4 : Int) = (5 + k : Int) := c2
            refine f_s [fi (1)] rfl rfl ?_
            refine f_goto rfl ?_
            refine f_ist [(4, fi (1)), (5, fi (4)), (3, fi (3)), (2, fi (b)), (0, .ref 55), (1, fi (k))] rfl (by decide) hL rfl (fun L119 hL119 => ?_)
            refine f_inc 1 [(5, fi (5)), (4, fi (1)), (3, fi (3)), (2, fi (b)), (0, .ref 55), (1, fi (k))] rfl (by decide) hL119 rfl rfl (fun L120 hL120 => ?_)
            refine f_goto rfl ?_
            have e9 : wmE m k 3 3 4 true = true := (if_pos (by omega)).trans (by rw [decide_eq_true c2]; rfl)
            rw [e9] at hG
            exact hI5_1 hc _ hw hm hG (hL120.sel [0, 1, 2, 3, 4, 5] rfl)
          · have c2 : ¬ (¬ (m 67 4 : Int) = (5 + k : Int)) := c2
            refine f_aln 4 rfl hL rfl ?_
            refine f_s [fi (0), .ref 55] rfl rfl ?_
            refine f_iln 2 rfl hL rfl ?_
            refine f_aln 4 rfl hL rfl ?_
            refine m_gfr so55 rfl hw rfl (by decide) ?_
            refine f_il 0 rfl hL rfl ?_
            refine m_ia sa68 (m 68 4) rfl hw hm (by omega) (by omega) (by decide) rfl ?_
            refine m_k1 (t90_0 (p := 3) (h := m 68 4) (by decide) (by decide) (hR 68 4) (fv := m 58 3) rfl (hR 58 _) (uv := m 59 3) rfl (hR 59 _)) hw hm rfl rfl rfl (m_ar so55 hw rfl) rfl (fun hc17 hw17 hm17 => ?_)
            have c2 : m 67 4 = 5 + k := by omega
            refine f_if rfl (bI_r _) (fun c3 => ?_) (fun c3 => ?_)
            · have c3 : (bI (decide (¬ iA (iR (m 61 16) (3)) (1) = 1 ∧ m 58 3 ≤ m 68 4 ∧ m 68 4 ≤ m 59 3)) : Int) = (0 : Int) := c3
              have c3 : ¬ (¬ iA (iR (m 61 16) (3)) (1) = 1 ∧ m 58 3 ≤ m 68 4 ∧ m 68 4 ≤ m 59 3) := bI_f c3
              refine f_s [fi (0)] rfl rfl ?_
              refine f_ist [(4, fi (0)), (5, fi (4)), (3, fi (3)), (2, fi (b)), (0, .ref 55), (1, fi (k))] rfl (by decide) hL rfl (fun L121 hL121 => ?_)
              refine f_inc 1 [(5, fi (5)), (4, fi (0)), (3, fi (3)), (2, fi (b)), (0, .ref 55), (1, fi (k))] rfl (by decide) hL121 rfl rfl (fun L122 hL122 => ?_)
              refine f_goto rfl ?_
              have e9 : wmE m k 3 3 4 true = false := (if_pos (by omega)).trans (by rw [decide_eq_false (fun z => z c2), decide_eq_false c3]; rfl)
              rw [e9] at hG
              exact hI5_0 hc17 _ hw17 hm17 hG (hL122.sel [0, 1, 2, 3, 4, 5] rfl)
            · have c3 : ¬ ((bI (decide (¬ iA (iR (m 61 16) (3)) (1) = 1 ∧ m 58 3 ≤ m 68 4 ∧ m 68 4 ≤ m 59 3)) : Int) = (0 : Int)) := c3
              have c3 : ¬ iA (iR (m 61 16) (3)) (1) = 1 ∧ m 58 3 ≤ m 68 4 ∧ m 68 4 ≤ m 59 3 := bI_t c3
              refine f_aln 4 rfl hL rfl ?_
              refine f_iln 2 rfl hL rfl ?_
              refine f_aln 4 rfl hL rfl ?_
              refine m_gfr so55 rfl hw17 rfl (by decide) ?_
              refine f_il 0 rfl hL rfl ?_
              refine m_ia sa68 (m 68 4) rfl hw17 hm17 (by omega) (by omega) (by decide) rfl ?_
              refine m_k1 (show h_M 159 [.ref 55, fi (3), fi (m 68 4)] m (some (fi (bI (sn m 3 (m 68 4))))) m from se_sn m 3 (m 68 4) ▸ t159 ht (by decide) (hR 68 4)) hw17 hm17 rfl rfl rfl (m_ar so55 hw17 rfl) rfl (fun hc18 hw18 hm18 => ?_)
              refine f_if rfl (bI_r _) (fun c4 => ?_) (fun c4 => ?_)
              · have c4 : ¬ (bI (sn m 3 (m 68 4)) : Int) = (0 : Int) := c4
                refine f_s [fi (0)] rfl rfl ?_
                refine f_ist [(4, fi (0)), (5, fi (4)), (3, fi (3)), (2, fi (b)), (0, .ref 55), (1, fi (k))] rfl (by decide) hL rfl (fun L123 hL123 => ?_)
                refine f_inc 1 [(5, fi (5)), (4, fi (0)), (3, fi (3)), (2, fi (b)), (0, .ref 55), (1, fi (k))] rfl (by decide) hL123 rfl rfl (fun L124 hL124 => ?_)
                refine f_goto rfl ?_
                have e9 : wmE m k 3 3 4 true = false := (if_pos (by omega)).trans (by rw [decide_eq_false (fun z => z c2), decide_eq_true c3, bI1 c4]; rfl)
                rw [e9] at hG
                exact hI5_0 hc18 _ hw18 hm18 hG (hL124.sel [0, 1, 2, 3, 4, 5] rfl)
              · have c4 : ¬ (¬ (bI (sn m 3 (m 68 4)) : Int) = (0 : Int)) := c4
                refine f_s [fi (1)] rfl rfl ?_
                refine f_goto rfl ?_
                refine f_ist [(4, fi (1)), (5, fi (4)), (3, fi (3)), (2, fi (b)), (0, .ref 55), (1, fi (k))] rfl (by decide) hL rfl (fun L125 hL125 => ?_)
                refine f_inc 1 [(5, fi (5)), (4, fi (1)), (3, fi (3)), (2, fi (b)), (0, .ref 55), (1, fi (k))] rfl (by decide) hL125 rfl rfl (fun L126 hL126 => ?_)
                refine f_goto rfl ?_
                have e9 : wmE m k 3 3 4 true = true := (if_pos (by omega)).trans (by rw [decide_eq_false (fun z => z c2), decide_eq_true c3, bI0 (Classical.byContradiction c4)]; rfl)
                rw [e9] at hG
                exact hI5_1 hc18 _ hw18 hm18 hG (hL126.sel [0, 1, 2, 3, 4, 5] rfl)
      have hI3_0 : ∀ (hc : ev_H) (L : ev_L), y_in yGw hc → gi hc = m → wmE m k 3 3 5 (wmE m k 3 3 4 (wmE m k 3 3 3 (false))) = wmB m k 3 3 → f_L L [(5, fi (3)), (4, fi (0)), (3, fi (3)), (2, fi (b)), (0, .ref 55), (1, fi (k))] → x_W none (1, 0, 6, 1, 11, 3, 66, 0, 0, ev_t160) 54 L [] hc 0 0 (fun r' h' => r' = some (fi (wm1 m k 4 4 (iS 1 4) (wm1 m k 3 3 (iS 1 3) (b)))) ∧ y_in yGw h' ∧ gi h' = m) := fun hc L hw hm hG hL => by
        refine f_il 0 rfl hL rfl ?_
        refine f_aln 4 rfl hL rfl ?_
        refine m_gfi so55 (m 55 21) rfl hw hm rfl rfl ?_
        refine f_ic rfl (by decide) (by omega) (fun ci => ?_) (fun ci => ?_)
        · have ci : (m 55 21 : Int) ≤ (3 : Int) := ci
          have e8 : wmE m k 3 3 5 (wmE m k 3 3 4 (wmE m k 3 3 3 (false))) = false := by unfold wmE; rw [if_neg (by omega), if_neg (by omega), if_neg (by omega)]
          rw [e8] at hG
          refine f_iln 3 rfl hL rfl ?_
          refine f_il 1 rfl hL rfl ?_
          refine f_if rfl (by decide) (fun _ => ?_) (fun c_9 => absurd (show (0 : Int) = (0 : Int) from (by decide)) c_9)
          refine f_s [fi (0), fi (b)] rfl rfl ?_
          refine b_ior rfl ?_
          refine f_istn [(2, fi (iO (b) (0))), (5, fi (3)), (4, fi (0)), (3, fi (3)), (0, .ref 55), (1, fi (k))] rfl (by decide) hL rfl (fun L127 hL127 => ?_)
          refine f_inc 3 [(3, fi (4)), (2, fi (iO (b) (0))), (5, fi (3)), (4, fi (0)), (0, .ref 55), (1, fi (k))] rfl (by decide) hL127 rfl rfl (fun L128 hL128 => ?_)
          refine f_goto rfl ?_
          have e9 : wm1 m k 3 3 (iS 1 3) b = iO (b) (0) := (if_pos pp).trans (by rw [← hG, if_neg (by decide)])
          rw [e9]
          exact hK4 hc _ _ hw hm (hL128.sel [0, 1, 4, 5] rfl)
        · have ci : ¬ ((m 55 21 : Int) ≤ (3 : Int)) := ci
          refine f_il 1 rfl hL rfl ?_
          refine f_if rfl (by decide) (fun _ => ?_) (fun c_9 => absurd (show (0 : Int) = (0 : Int) from (by decide)) c_9)
          refine f_s [fi (0)] rfl rfl ?_
          refine f_ist [(4, fi (0)), (5, fi (3)), (3, fi (3)), (2, fi (b)), (0, .ref 55), (1, fi (k))] rfl (by decide) hL rfl (fun L129 hL129 => ?_)
          refine f_inc 1 [(5, fi (4)), (4, fi (0)), (3, fi (3)), (2, fi (b)), (0, .ref 55), (1, fi (k))] rfl (by decide) hL129 rfl rfl (fun L130 hL130 => ?_)
          refine f_goto rfl ?_
          have e9 : wmE m k 3 3 3 false = false := (if_pos (by omega)).trans (by rfl)
          rw [e9] at hG
          exact hI4_0 hc _ hw hm hG (hL130.sel [0, 1, 2, 3, 4, 5] rfl)
      have hI3_1 : ∀ (hc : ev_H) (L : ev_L), y_in yGw hc → gi hc = m → wmE m k 3 3 5 (wmE m k 3 3 4 (wmE m k 3 3 3 (true))) = wmB m k 3 3 → f_L L [(5, fi (3)), (4, fi (1)), (3, fi (3)), (2, fi (b)), (0, .ref 55), (1, fi (k))] → x_W none (1, 0, 6, 1, 11, 3, 66, 0, 0, ev_t160) 54 L [] hc 0 0 (fun r' h' => r' = some (fi (wm1 m k 4 4 (iS 1 4) (wm1 m k 3 3 (iS 1 3) (b)))) ∧ y_in yGw h' ∧ gi h' = m) := fun hc L hw hm hG hL => by
        refine f_il 0 rfl hL rfl ?_
        refine f_aln 4 rfl hL rfl ?_
        refine m_gfi so55 (m 55 21) rfl hw hm rfl rfl ?_
        refine f_ic rfl (by decide) (by omega) (fun ci => ?_) (fun ci => ?_)
        · have ci : (m 55 21 : Int) ≤ (3 : Int) := ci
          have e8 : wmE m k 3 3 5 (wmE m k 3 3 4 (wmE m k 3 3 3 (true))) = true := by unfold wmE; rw [if_neg (by omega), if_neg (by omega), if_neg (by omega)]
          rw [e8] at hG
          refine f_iln 3 rfl hL rfl ?_
          refine f_il 1 rfl hL rfl ?_
          refine f_if rfl (by decide) (fun c_9 => absurd (show (1 : Int) = (0 : Int) from c_9) (by decide)) (fun _ => ?_)
          refine f_s [fi (1), fi (b)] rfl rfl ?_
          refine f_iln 2 rfl hL rfl ?_
          refine b_ishl rfl ?_
          refine f_goto rfl ?_
          refine b_ior rfl ?_
          refine f_istn [(2, fi (iO (b) (iS (1) (3)))), (5, fi (3)), (4, fi (1)), (3, fi (3)), (0, .ref 55), (1, fi (k))] rfl (by decide) hL rfl (fun L131 hL131 => ?_)
          refine f_inc 3 [(3, fi (4)), (2, fi (iO (b) (iS (1) (3)))), (5, fi (3)), (4, fi (1)), (0, .ref 55), (1, fi (k))] rfl (by decide) hL131 rfl rfl (fun L132 hL132 => ?_)
          refine f_goto rfl ?_
          have e9 : wm1 m k 3 3 (iS 1 3) b = iO (b) (iS (1) (3)) := (if_pos pp).trans (by rw [← hG, if_pos rfl])
          rw [e9]
          exact hK4 hc _ _ hw hm (hL132.sel [0, 1, 4, 5] rfl)
        · have ci : ¬ ((m 55 21 : Int) ≤ (3 : Int)) := ci
          refine f_il 1 rfl hL rfl ?_
          refine f_if rfl (by decide) (fun c_9 => absurd (show (1 : Int) = (0 : Int) from c_9) (by decide)) (fun _ => ?_)
          refine f_aln 4 rfl hL rfl ?_
          refine m_gfr so55 rfl hw rfl (by decide) ?_
          refine f_il 0 rfl hL rfl ?_
          refine m_ia sa67 (m 67 3) rfl hw hm (by omega) (by omega) (by decide) rfl ?_
          refine f_s [fi (5), fi (m 67 3)] rfl rfl ?_
          refine f_iln 5 rfl hL rfl ?_
          refine f_iadd rfl ?_
          refine f_ic rfl (hR 67 3) (by omega) (fun c2 => ?_) (fun c2 => ?_)
          · have c2 : ¬ (m 67 3 : Int) = (5 + k : Int) := c2
            refine f_s [fi (1)] rfl rfl ?_
            refine f_goto rfl ?_
            refine f_ist [(4, fi (1)), (5, fi (3)), (3, fi (3)), (2, fi (b)), (0, .ref 55), (1, fi (k))] rfl (by decide) hL rfl (fun L133 hL133 => ?_)
            refine f_inc 1 [(5, fi (4)), (4, fi (1)), (3, fi (3)), (2, fi (b)), (0, .ref 55), (1, fi (k))] rfl (by decide) hL133 rfl rfl (fun L134 hL134 => ?_)
            refine f_goto rfl ?_
            have e9 : wmE m k 3 3 3 true = true := (if_pos (by omega)).trans (by rw [decide_eq_true c2]; rfl)
            rw [e9] at hG
            exact hI4_1 hc _ hw hm hG (hL134.sel [0, 1, 2, 3, 4, 5] rfl)
          · have c2 : ¬ (¬ (m 67 3 : Int) = (5 + k : Int)) := c2
            refine f_aln 4 rfl hL rfl ?_
            refine f_s [fi (0), .ref 55] rfl rfl ?_
            refine f_iln 2 rfl hL rfl ?_
            refine f_aln 4 rfl hL rfl ?_
            refine m_gfr so55 rfl hw rfl (by decide) ?_
            refine f_il 0 rfl hL rfl ?_
            refine m_ia sa68 (m 68 3) rfl hw hm (by omega) (by omega) (by decide) rfl ?_
            refine m_k1 (t90_0 (p := 3) (h := m 68 3) (by decide) (by decide) (hR 68 3) (fv := m 58 3) rfl (hR 58 _) (uv := m 59 3) rfl (hR 59 _)) hw hm rfl rfl rfl (m_ar so55 hw rfl) rfl (fun hc19 hw19 hm19 => ?_)
            have c2 : m 67 3 = 5 + k := by omega
            refine f_if rfl (bI_r _) (fun c3 => ?_) (fun c3 => ?_)
            · have c3 : (bI (decide (¬ iA (iR (m 61 16) (3)) (1) = 1 ∧ m 58 3 ≤ m 68 3 ∧ m 68 3 ≤ m 59 3)) : Int) = (0 : Int) := c3
              have c3 : ¬ (¬ iA (iR (m 61 16) (3)) (1) = 1 ∧ m 58 3 ≤ m 68 3 ∧ m 68 3 ≤ m 59 3) := bI_f c3
              refine f_s [fi (0)] rfl rfl ?_
              refine f_ist [(4, fi (0)), (5, fi (3)), (3, fi (3)), (2, fi (b)), (0, .ref 55), (1, fi (k))] rfl (by decide) hL rfl (fun L135 hL135 => ?_)
              refine f_inc 1 [(5, fi (4)), (4, fi (0)), (3, fi (3)), (2, fi (b)), (0, .ref 55), (1, fi (k))] rfl (by decide) hL135 rfl rfl (fun L136 hL136 => ?_)
              refine f_goto rfl ?_
              have e9 : wmE m k 3 3 3 true = false := (if_pos (by omega)).trans (by rw [decide_eq_false (fun z => z c2), decide_eq_false c3]; rfl)
              rw [e9] at hG
              exact hI4_0 hc19 _ hw19 hm19 hG (hL136.sel [0, 1, 2, 3, 4, 5] rfl)
            · have c3 : ¬ ((bI (decide (¬ iA (iR (m 61 16) (3)) (1) = 1 ∧ m 58 3 ≤ m 68 3 ∧ m 68 3 ≤ m 59 3)) : Int) = (0 : Int)) := c3
              have c3 : ¬ iA (iR (m 61 16) (3)) (1) = 1 ∧ m 58 3 ≤ m 68 3 ∧ m 68 3 ≤ m 59 3 := bI_t c3
              refine f_aln 4 rfl hL rfl ?_
              refine f_iln 2 rfl hL rfl ?_
              refine f_aln 4 rfl hL rfl ?_
              refine m_gfr so55 rfl hw19 rfl (by decide) ?_
              refine f_il 0 rfl hL rfl ?_
              refine m_ia sa68 (m 68 3) rfl hw19 hm19 (by omega) (by omega) (by decide) rfl ?_
              refine m_k1 (show h_M 159 [.ref 55, fi (3), fi (m 68 3)] m (some (fi (bI (sn m 3 (m 68 3))))) m from se_sn m 3 (m 68 3) ▸ t159 ht (by decide) (hR 68 3)) hw19 hm19 rfl rfl rfl (m_ar so55 hw19 rfl) rfl (fun hc20 hw20 hm20 => ?_)
              refine f_if rfl (bI_r _) (fun c4 => ?_) (fun c4 => ?_)
              · have c4 : ¬ (bI (sn m 3 (m 68 3)) : Int) = (0 : Int) := c4
                refine f_s [fi (0)] rfl rfl ?_
                refine f_ist [(4, fi (0)), (5, fi (3)), (3, fi (3)), (2, fi (b)), (0, .ref 55), (1, fi (k))] rfl (by decide) hL rfl (fun L137 hL137 => ?_)
                refine f_inc 1 [(5, fi (4)), (4, fi (0)), (3, fi (3)), (2, fi (b)), (0, .ref 55), (1, fi (k))] rfl (by decide) hL137 rfl rfl (fun L138 hL138 => ?_)
                refine f_goto rfl ?_
                have e9 : wmE m k 3 3 3 true = false := (if_pos (by omega)).trans (by rw [decide_eq_false (fun z => z c2), decide_eq_true c3, bI1 c4]; rfl)
                rw [e9] at hG
                exact hI4_0 hc20 _ hw20 hm20 hG (hL138.sel [0, 1, 2, 3, 4, 5] rfl)
              · have c4 : ¬ (¬ (bI (sn m 3 (m 68 3)) : Int) = (0 : Int)) := c4
                refine f_s [fi (1)] rfl rfl ?_
                refine f_goto rfl ?_
                refine f_ist [(4, fi (1)), (5, fi (3)), (3, fi (3)), (2, fi (b)), (0, .ref 55), (1, fi (k))] rfl (by decide) hL rfl (fun L139 hL139 => ?_)
                refine f_inc 1 [(5, fi (4)), (4, fi (1)), (3, fi (3)), (2, fi (b)), (0, .ref 55), (1, fi (k))] rfl (by decide) hL139 rfl rfl (fun L140 hL140 => ?_)
                refine f_goto rfl ?_
                have e9 : wmE m k 3 3 3 true = true := (if_pos (by omega)).trans (by rw [decide_eq_false (fun z => z c2), decide_eq_true c3, bI0 (Classical.byContradiction c4)]; rfl)
                rw [e9] at hG
                exact hI4_1 hc20 _ hw20 hm20 hG (hL140.sel [0, 1, 2, 3, 4, 5] rfl)
      have hI2_0 : ∀ (hc : ev_H) (L : ev_L), y_in yGw hc → gi hc = m → wmE m k 3 3 5 (wmE m k 3 3 4 (wmE m k 3 3 3 (wmE m k 3 3 2 (false)))) = wmB m k 3 3 → f_L L [(5, fi (2)), (4, fi (0)), (3, fi (3)), (2, fi (b)), (0, .ref 55), (1, fi (k))] → x_W none (1, 0, 6, 1, 11, 3, 66, 0, 0, ev_t160) 54 L [] hc 0 0 (fun r' h' => r' = some (fi (wm1 m k 4 4 (iS 1 4) (wm1 m k 3 3 (iS 1 3) (b)))) ∧ y_in yGw h' ∧ gi h' = m) := fun hc L hw hm hG hL => by
        refine f_il 0 rfl hL rfl ?_
        refine f_aln 4 rfl hL rfl ?_
        refine m_gfi so55 (m 55 21) rfl hw hm rfl rfl ?_
        refine f_ic rfl (by decide) (by omega) (fun ci => ?_) (fun ci => ?_)
        · have ci : (m 55 21 : Int) ≤ (2 : Int) := ci
          have e8 : wmE m k 3 3 5 (wmE m k 3 3 4 (wmE m k 3 3 3 (wmE m k 3 3 2 (false)))) = false := by unfold wmE; rw [if_neg (by omega), if_neg (by omega), if_neg (by omega), if_neg (by omega)]
          rw [e8] at hG
          refine f_iln 3 rfl hL rfl ?_
          refine f_il 1 rfl hL rfl ?_
          refine f_if rfl (by decide) (fun _ => ?_) (fun c_9 => absurd (show (0 : Int) = (0 : Int) from (by decide)) c_9)
          refine f_s [fi (0), fi (b)] rfl rfl ?_
          refine b_ior rfl ?_
          refine f_istn [(2, fi (iO (b) (0))), (5, fi (2)), (4, fi (0)), (3, fi (3)), (0, .ref 55), (1, fi (k))] rfl (by decide) hL rfl (fun L141 hL141 => ?_)
          refine f_inc 3 [(3, fi (4)), (2, fi (iO (b) (0))), (5, fi (2)), (4, fi (0)), (0, .ref 55), (1, fi (k))] rfl (by decide) hL141 rfl rfl (fun L142 hL142 => ?_)
          refine f_goto rfl ?_
          have e9 : wm1 m k 3 3 (iS 1 3) b = iO (b) (0) := (if_pos pp).trans (by rw [← hG, if_neg (by decide)])
          rw [e9]
          exact hK4 hc _ _ hw hm (hL142.sel [0, 1, 4, 5] rfl)
        · have ci : ¬ ((m 55 21 : Int) ≤ (2 : Int)) := ci
          refine f_il 1 rfl hL rfl ?_
          refine f_if rfl (by decide) (fun _ => ?_) (fun c_9 => absurd (show (0 : Int) = (0 : Int) from (by decide)) c_9)
          refine f_s [fi (0)] rfl rfl ?_
          refine f_ist [(4, fi (0)), (5, fi (2)), (3, fi (3)), (2, fi (b)), (0, .ref 55), (1, fi (k))] rfl (by decide) hL rfl (fun L143 hL143 => ?_)
          refine f_inc 1 [(5, fi (3)), (4, fi (0)), (3, fi (3)), (2, fi (b)), (0, .ref 55), (1, fi (k))] rfl (by decide) hL143 rfl rfl (fun L144 hL144 => ?_)
          refine f_goto rfl ?_
          have e9 : wmE m k 3 3 2 false = false := (if_pos (by omega)).trans (by rfl)
          rw [e9] at hG
          exact hI3_0 hc _ hw hm hG (hL144.sel [0, 1, 2, 3, 4, 5] rfl)
      have hI2_1 : ∀ (hc : ev_H) (L : ev_L), y_in yGw hc → gi hc = m → wmE m k 3 3 5 (wmE m k 3 3 4 (wmE m k 3 3 3 (wmE m k 3 3 2 (true)))) = wmB m k 3 3 → f_L L [(5, fi (2)), (4, fi (1)), (3, fi (3)), (2, fi (b)), (0, .ref 55), (1, fi (k))] → x_W none (1, 0, 6, 1, 11, 3, 66, 0, 0, ev_t160) 54 L [] hc 0 0 (fun r' h' => r' = some (fi (wm1 m k 4 4 (iS 1 4) (wm1 m k 3 3 (iS 1 3) (b)))) ∧ y_in yGw h' ∧ gi h' = m) := fun hc L hw hm hG hL => by
        refine f_il 0 rfl hL rfl ?_
        refine f_aln 4 rfl hL rfl ?_
        refine m_gfi so55 (m 55 21) rfl hw hm rfl rfl ?_
        refine f_ic rfl (by decide) (by omega) (fun ci => ?_) (fun ci => ?_)
        · have ci : (m 55 21 : Int) ≤ (2 : Int) := ci
          have e8 : wmE m k 3 3 5 (wmE m k 3 3 4 (wmE m k 3 3 3 (wmE m k 3 3 2 (true)))) = true := by unfold wmE; rw [if_neg (by omega), if_neg (by omega), if_neg (by omega), if_neg (by omega)]
          rw [e8] at hG
          refine f_iln 3 rfl hL rfl ?_
          refine f_il 1 rfl hL rfl ?_
          refine f_if rfl (by decide) (fun c_9 => absurd (show (1 : Int) = (0 : Int) from c_9) (by decide)) (fun _ => ?_)
          refine f_s [fi (1), fi (b)] rfl rfl ?_
          refine f_iln 2 rfl hL rfl ?_
          refine b_ishl rfl ?_
          refine f_goto rfl ?_
          refine b_ior rfl ?_
          refine f_istn [(2, fi (iO (b) (iS (1) (3)))), (5, fi (2)), (4, fi (1)), (3, fi (3)), (0, .ref 55), (1, fi (k))] rfl (by decide) hL rfl (fun L145 hL145 => ?_)
          refine f_inc 3 [(3, fi (4)), (2, fi (iO (b) (iS (1) (3)))), (5, fi (2)), (4, fi (1)), (0, .ref 55), (1, fi (k))] rfl (by decide) hL145 rfl rfl (fun L146 hL146 => ?_)
          refine f_goto rfl ?_
          have e9 : wm1 m k 3 3 (iS 1 3) b = iO (b) (iS (1) (3)) := (if_pos pp).trans (by rw [← hG, if_pos rfl])
          rw [e9]
          exact hK4 hc _ _ hw hm (hL146.sel [0, 1, 4, 5] rfl)
        · have ci : ¬ ((m 55 21 : Int) ≤ (2 : Int)) := ci
          refine f_il 1 rfl hL rfl ?_
          refine f_if rfl (by decide) (fun c_9 => absurd (show (1 : Int) = (0 : Int) from c_9) (by decide)) (fun _ => ?_)
          refine f_aln 4 rfl hL rfl ?_
          refine m_gfr so55 rfl hw rfl (by decide) ?_
          refine f_il 0 rfl hL rfl ?_
          refine m_ia sa67 (m 67 2) rfl hw hm (by omega) (by omega) (by decide) rfl ?_
          refine f_s [fi (5), fi (m 67 2)] rfl rfl ?_
          refine f_iln 5 rfl hL rfl ?_
          refine f_iadd rfl ?_
          refine f_ic rfl (hR 67 2) (by omega) (fun c2 => ?_) (fun c2 => ?_)
          · have c2 : ¬ (m 67 2 : Int) = (5 + k : Int) := c2
            refine f_s [fi (1)] rfl rfl ?_
            refine f_goto rfl ?_
            refine f_ist [(4, fi (1)), (5, fi (2)), (3, fi (3)), (2, fi (b)), (0, .ref 55), (1, fi (k))] rfl (by decide) hL rfl (fun L147 hL147 => ?_)
            refine f_inc 1 [(5, fi (3)), (4, fi (1)), (3, fi (3)), (2, fi (b)), (0, .ref 55), (1, fi (k))] rfl (by decide) hL147 rfl rfl (fun L148 hL148 => ?_)
            refine f_goto rfl ?_
            have e9 : wmE m k 3 3 2 true = true := (if_pos (by omega)).trans (by rw [decide_eq_true c2]; rfl)
            rw [e9] at hG
            exact hI3_1 hc _ hw hm hG (hL148.sel [0, 1, 2, 3, 4, 5] rfl)
          · have c2 : ¬ (¬ (m 67 2 : Int) = (5 + k : Int)) := c2
            refine f_aln 4 rfl hL rfl ?_
            refine f_s [fi (0), .ref 55] rfl rfl ?_
            refine f_iln 2 rfl hL rfl ?_
            refine f_aln 4 rfl hL rfl ?_
            refine m_gfr so55 rfl hw rfl (by decide) ?_
            refine f_il 0 rfl hL rfl ?_
            refine m_ia sa68 (m 68 2) rfl hw hm (by omega) (by omega) (by decide) rfl ?_
            refine m_k1 (t90_0 (p := 3) (h := m 68 2) (by decide) (by decide) (hR 68 2) (fv := m 58 3) rfl (hR 58 _) (uv := m 59 3) rfl (hR 59 _)) hw hm rfl rfl rfl (m_ar so55 hw rfl) rfl (fun hc21 hw21 hm21 => ?_)
            have c2 : m 67 2 = 5 + k := by omega
            refine f_if rfl (bI_r _) (fun c3 => ?_) (fun c3 => ?_)
            · have c3 : (bI (decide (¬ iA (iR (m 61 16) (3)) (1) = 1 ∧ m 58 3 ≤ m 68 2 ∧ m 68 2 ≤ m 59 3)) : Int) = (0 : Int) := c3
              have c3 : ¬ (¬ iA (iR (m 61 16) (3)) (1) = 1 ∧ m 58 3 ≤ m 68 2 ∧ m 68 2 ≤ m 59 3) := bI_f c3
              refine f_s [fi (0)] rfl rfl ?_
              refine f_ist [(4, fi (0)), (5, fi (2)), (3, fi (3)), (2, fi (b)), (0, .ref 55), (1, fi (k))] rfl (by decide) hL rfl (fun L149 hL149 => ?_)
              refine f_inc 1 [(5, fi (3)), (4, fi (0)), (3, fi (3)), (2, fi (b)), (0, .ref 55), (1, fi (k))] rfl (by decide) hL149 rfl rfl (fun L150 hL150 => ?_)
              refine f_goto rfl ?_
              have e9 : wmE m k 3 3 2 true = false := (if_pos (by omega)).trans (by rw [decide_eq_false (fun z => z c2), decide_eq_false c3]; rfl)
              rw [e9] at hG
              exact hI3_0 hc21 _ hw21 hm21 hG (hL150.sel [0, 1, 2, 3, 4, 5] rfl)
            · have c3 : ¬ ((bI (decide (¬ iA (iR (m 61 16) (3)) (1) = 1 ∧ m 58 3 ≤ m 68 2 ∧ m 68 2 ≤ m 59 3)) : Int) = (0 : Int)) := c3
              have c3 : ¬ iA (iR (m 61 16) (3)) (1) = 1 ∧ m 58 3 ≤ m 68 2 ∧ m 68 2 ≤ m 59 3 := bI_t c3
              refine f_aln 4 rfl hL rfl ?_
              refine f_iln 2 rfl hL rfl ?_
              refine f_aln 4 rfl hL rfl ?_
              refine m_gfr so55 rfl hw21 rfl (by decide) ?_
              refine f_il 0 rfl hL rfl ?_
              refine m_ia sa68 (m 68 2) rfl hw21 hm21 (by omega) (by omega) (by decide) rfl ?_
              refine m_k1 (show h_M 159 [.ref 55, fi (3), fi (m 68 2)] m (some (fi (bI (sn m 3 (m 68 2))))) m from se_sn m 3 (m 68 2) ▸ t159 ht (by decide) (hR 68 2)) hw21 hm21 rfl rfl rfl (m_ar so55 hw21 rfl) rfl (fun hc22 hw22 hm22 => ?_)
              refine f_if rfl (bI_r _) (fun c4 => ?_) (fun c4 => ?_)
              · have c4 : ¬ (bI (sn m 3 (m 68 2)) : Int) = (0 : Int) := c4
                refine f_s [fi (0)] rfl rfl ?_
                refine f_ist [(4, fi (0)), (5, fi (2)), (3, fi (3)), (2, fi (b)), (0, .ref 55), (1, fi (k))] rfl (by decide) hL rfl (fun L151 hL151 => ?_)
                refine f_inc 1 [(5, fi (3)), (4, fi (0)), (3, fi (3)), (2, fi (b)), (0, .ref 55), (1, fi (k))] rfl (by decide) hL151 rfl rfl (fun L152 hL152 => ?_)
                refine f_goto rfl ?_
                have e9 : wmE m k 3 3 2 true = false := (if_pos (by omega)).trans (by rw [decide_eq_false (fun z => z c2), decide_eq_true c3, bI1 c4]; rfl)
                rw [e9] at hG
                exact hI3_0 hc22 _ hw22 hm22 hG (hL152.sel [0, 1, 2, 3, 4, 5] rfl)
              · have c4 : ¬ (¬ (bI (sn m 3 (m 68 2)) : Int) = (0 : Int)) := c4
                refine f_s [fi (1)] rfl rfl ?_
                refine f_goto rfl ?_
                refine f_ist [(4, fi (1)), (5, fi (2)), (3, fi (3)), (2, fi (b)), (0, .ref 55), (1, fi (k))] rfl (by decide) hL rfl (fun L153 hL153 => ?_)
                refine f_inc 1 [(5, fi (3)), (4, fi (1)), (3, fi (3)), (2, fi (b)), (0, .ref 55), (1, fi (k))] rfl (by decide) hL153 rfl rfl (fun L154 hL154 => ?_)
                refine f_goto rfl ?_
                have e9 : wmE m k 3 3 2 true = true := (if_pos (by omega)).trans (by rw [decide_eq_false (fun z => z c2), decide_eq_true c3, bI0 (Classical.byContradiction c4)]; rfl)
                rw [e9] at hG
                exact hI3_1 hc22 _ hw22 hm22 hG (hL154.sel [0, 1, 2, 3, 4, 5] rfl)
      have hI1_0 : ∀ (hc : ev_H) (L : ev_L), y_in yGw hc → gi hc = m → wmE m k 3 3 5 (wmE m k 3 3 4 (wmE m k 3 3 3 (wmE m k 3 3 2 (wmE m k 3 3 1 (false))))) = wmB m k 3 3 → f_L L [(5, fi (1)), (4, fi (0)), (3, fi (3)), (2, fi (b)), (0, .ref 55), (1, fi (k))] → x_W none (1, 0, 6, 1, 11, 3, 66, 0, 0, ev_t160) 54 L [] hc 0 0 (fun r' h' => r' = some (fi (wm1 m k 4 4 (iS 1 4) (wm1 m k 3 3 (iS 1 3) (b)))) ∧ y_in yGw h' ∧ gi h' = m) := fun hc L hw hm hG hL => by
        refine f_il 0 rfl hL rfl ?_
        refine f_aln 4 rfl hL rfl ?_
        refine m_gfi so55 (m 55 21) rfl hw hm rfl rfl ?_
        refine f_ic rfl (by decide) (by omega) (fun ci => ?_) (fun ci => ?_)
        · have ci : (m 55 21 : Int) ≤ (1 : Int) := ci
          have e8 : wmE m k 3 3 5 (wmE m k 3 3 4 (wmE m k 3 3 3 (wmE m k 3 3 2 (wmE m k 3 3 1 (false))))) = false := by unfold wmE; rw [if_neg (by omega), if_neg (by omega), if_neg (by omega), if_neg (by omega), if_neg (by omega)]
          rw [e8] at hG
          refine f_iln 3 rfl hL rfl ?_
          refine f_il 1 rfl hL rfl ?_
          refine f_if rfl (by decide) (fun _ => ?_) (fun c_9 => absurd (show (0 : Int) = (0 : Int) from (by decide)) c_9)
          refine f_s [fi (0), fi (b)] rfl rfl ?_
          refine b_ior rfl ?_
          refine f_istn [(2, fi (iO (b) (0))), (5, fi (1)), (4, fi (0)), (3, fi (3)), (0, .ref 55), (1, fi (k))] rfl (by decide) hL rfl (fun L155 hL155 => ?_)
          refine f_inc 3 [(3, fi (4)), (2, fi (iO (b) (0))), (5, fi (1)), (4, fi (0)), (0, .ref 55), (1, fi (k))] rfl (by decide) hL155 rfl rfl (fun L156 hL156 => ?_)
          refine f_goto rfl ?_
          have e9 : wm1 m k 3 3 (iS 1 3) b = iO (b) (0) := (if_pos pp).trans (by rw [← hG, if_neg (by decide)])
          rw [e9]
          exact hK4 hc _ _ hw hm (hL156.sel [0, 1, 4, 5] rfl)
        · have ci : ¬ ((m 55 21 : Int) ≤ (1 : Int)) := ci
          refine f_il 1 rfl hL rfl ?_
          refine f_if rfl (by decide) (fun _ => ?_) (fun c_9 => absurd (show (0 : Int) = (0 : Int) from (by decide)) c_9)
          refine f_s [fi (0)] rfl rfl ?_
          refine f_ist [(4, fi (0)), (5, fi (1)), (3, fi (3)), (2, fi (b)), (0, .ref 55), (1, fi (k))] rfl (by decide) hL rfl (fun L157 hL157 => ?_)
          refine f_inc 1 [(5, fi (2)), (4, fi (0)), (3, fi (3)), (2, fi (b)), (0, .ref 55), (1, fi (k))] rfl (by decide) hL157 rfl rfl (fun L158 hL158 => ?_)
          refine f_goto rfl ?_
          have e9 : wmE m k 3 3 1 false = false := (if_pos (by omega)).trans (by rfl)
          rw [e9] at hG
          exact hI2_0 hc _ hw hm hG (hL158.sel [0, 1, 2, 3, 4, 5] rfl)
      have hI1_1 : ∀ (hc : ev_H) (L : ev_L), y_in yGw hc → gi hc = m → wmE m k 3 3 5 (wmE m k 3 3 4 (wmE m k 3 3 3 (wmE m k 3 3 2 (wmE m k 3 3 1 (true))))) = wmB m k 3 3 → f_L L [(5, fi (1)), (4, fi (1)), (3, fi (3)), (2, fi (b)), (0, .ref 55), (1, fi (k))] → x_W none (1, 0, 6, 1, 11, 3, 66, 0, 0, ev_t160) 54 L [] hc 0 0 (fun r' h' => r' = some (fi (wm1 m k 4 4 (iS 1 4) (wm1 m k 3 3 (iS 1 3) (b)))) ∧ y_in yGw h' ∧ gi h' = m) := fun hc L hw hm hG hL => by
        refine f_il 0 rfl hL rfl ?_
        refine f_aln 4 rfl hL rfl ?_
        refine m_gfi so55 (m 55 21) rfl hw hm rfl rfl ?_
        refine f_ic rfl (by decide) (by omega) (fun ci => ?_) (fun ci => ?_)
        · have ci : (m 55 21 : Int) ≤ (1 : Int) := ci
          have e8 : wmE m k 3 3 5 (wmE m k 3 3 4 (wmE m k 3 3 3 (wmE m k 3 3 2 (wmE m k 3 3 1 (true))))) = true := by unfold wmE; rw [if_neg (by omega), if_neg (by omega), if_neg (by omega), if_neg (by omega), if_neg (by omega)]
          rw [e8] at hG
          refine f_iln 3 rfl hL rfl ?_
          refine f_il 1 rfl hL rfl ?_
          refine f_if rfl (by decide) (fun c_9 => absurd (show (1 : Int) = (0 : Int) from c_9) (by decide)) (fun _ => ?_)
          refine f_s [fi (1), fi (b)] rfl rfl ?_
          refine f_iln 2 rfl hL rfl ?_
          refine b_ishl rfl ?_
          refine f_goto rfl ?_
          refine b_ior rfl ?_
          refine f_istn [(2, fi (iO (b) (iS (1) (3)))), (5, fi (1)), (4, fi (1)), (3, fi (3)), (0, .ref 55), (1, fi (k))] rfl (by decide) hL rfl (fun L159 hL159 => ?_)
          refine f_inc 3 [(3, fi (4)), (2, fi (iO (b) (iS (1) (3)))), (5, fi (1)), (4, fi (1)), (0, .ref 55), (1, fi (k))] rfl (by decide) hL159 rfl rfl (fun L160 hL160 => ?_)
          refine f_goto rfl ?_
          have e9 : wm1 m k 3 3 (iS 1 3) b = iO (b) (iS (1) (3)) := (if_pos pp).trans (by rw [← hG, if_pos rfl])
          rw [e9]
          exact hK4 hc _ _ hw hm (hL160.sel [0, 1, 4, 5] rfl)
        · have ci : ¬ ((m 55 21 : Int) ≤ (1 : Int)) := ci
          refine f_il 1 rfl hL rfl ?_
          refine f_if rfl (by decide) (fun c_9 => absurd (show (1 : Int) = (0 : Int) from c_9) (by decide)) (fun _ => ?_)
          refine f_aln 4 rfl hL rfl ?_
          refine m_gfr so55 rfl hw rfl (by decide) ?_
          refine f_il 0 rfl hL rfl ?_
          refine m_ia sa67 (m 67 1) rfl hw hm (by omega) (by omega) (by decide) rfl ?_
          refine f_s [fi (5), fi (m 67 1)] rfl rfl ?_
          refine f_iln 5 rfl hL rfl ?_
          refine f_iadd rfl ?_
          refine f_ic rfl (hR 67 1) (by omega) (fun c2 => ?_) (fun c2 => ?_)
          · have c2 : ¬ (m 67 1 : Int) = (5 + k : Int) := c2
            refine f_s [fi (1)] rfl rfl ?_
            refine f_goto rfl ?_
            refine f_ist [(4, fi (1)), (5, fi (1)), (3, fi (3)), (2, fi (b)), (0, .ref 55), (1, fi (k))] rfl (by decide) hL rfl (fun L161 hL161 => ?_)
            refine f_inc 1 [(5, fi (2)), (4, fi (1)), (3, fi (3)), (2, fi (b)), (0, .ref 55), (1, fi (k))] rfl (by decide) hL161 rfl rfl (fun L162 hL162 => ?_)
            refine f_goto rfl ?_
            have e9 : wmE m k 3 3 1 true = true := (if_pos (by omega)).trans (by rw [decide_eq_true c2]; rfl)
            rw [e9] at hG
            exact hI2_1 hc _ hw hm hG (hL162.sel [0, 1, 2, 3, 4, 5] rfl)
          · have c2 : ¬ (¬ (m 67 1 : Int) = (5 + k : Int)) := c2
            refine f_aln 4 rfl hL rfl ?_
            refine f_s [fi (0), .ref 55] rfl rfl ?_
            refine f_iln 2 rfl hL rfl ?_
            refine f_aln 4 rfl hL rfl ?_
            refine m_gfr so55 rfl hw rfl (by decide) ?_
            refine f_il 0 rfl hL rfl ?_
            refine m_ia sa68 (m 68 1) rfl hw hm (by omega) (by omega) (by decide) rfl ?_
            refine m_k1 (t90_0 (p := 3) (h := m 68 1) (by decide) (by decide) (hR 68 1) (fv := m 58 3) rfl (hR 58 _) (uv := m 59 3) rfl (hR 59 _)) hw hm rfl rfl rfl (m_ar so55 hw rfl) rfl (fun hc23 hw23 hm23 => ?_)
            have c2 : m 67 1 = 5 + k := by omega
            refine f_if rfl (bI_r _) (fun c3 => ?_) (fun c3 => ?_)
            · have c3 : (bI (decide (¬ iA (iR (m 61 16) (3)) (1) = 1 ∧ m 58 3 ≤ m 68 1 ∧ m 68 1 ≤ m 59 3)) : Int) = (0 : Int) := c3
              have c3 : ¬ (¬ iA (iR (m 61 16) (3)) (1) = 1 ∧ m 58 3 ≤ m 68 1 ∧ m 68 1 ≤ m 59 3) := bI_f c3
              refine f_s [fi (0)] rfl rfl ?_
              refine f_ist [(4, fi (0)), (5, fi (1)), (3, fi (3)), (2, fi (b)), (0, .ref 55), (1, fi (k))] rfl (by decide) hL rfl (fun L163 hL163 => ?_)
              refine f_inc 1 [(5, fi (2)), (4, fi (0)), (3, fi (3)), (2, fi (b)), (0, .ref 55), (1, fi (k))] rfl (by decide) hL163 rfl rfl (fun L164 hL164 => ?_)
              refine f_goto rfl ?_
              have e9 : wmE m k 3 3 1 true = false := (if_pos (by omega)).trans (by rw [decide_eq_false (fun z => z c2), decide_eq_false c3]; rfl)
              rw [e9] at hG
              exact hI2_0 hc23 _ hw23 hm23 hG (hL164.sel [0, 1, 2, 3, 4, 5] rfl)
            · have c3 : ¬ ((bI (decide (¬ iA (iR (m 61 16) (3)) (1) = 1 ∧ m 58 3 ≤ m 68 1 ∧ m 68 1 ≤ m 59 3)) : Int) = (0 : Int)) := c3
              have c3 : ¬ iA (iR (m 61 16) (3)) (1) = 1 ∧ m 58 3 ≤ m 68 1 ∧ m 68 1 ≤ m 59 3 := bI_t c3
              refine f_aln 4 rfl hL rfl ?_
              refine f_iln 2 rfl hL rfl ?_
              refine f_aln 4 rfl hL rfl ?_
              refine m_gfr so55 rfl hw23 rfl (by decide) ?_
              refine f_il 0 rfl hL rfl ?_
              refine m_ia sa68 (m 68 1) rfl hw23 hm23 (by omega) (by omega) (by decide) rfl ?_
              refine m_k1 (show h_M 159 [.ref 55, fi (3), fi (m 68 1)] m (some (fi (bI (sn m 3 (m 68 1))))) m from se_sn m 3 (m 68 1) ▸ t159 ht (by decide) (hR 68 1)) hw23 hm23 rfl rfl rfl (m_ar so55 hw23 rfl) rfl (fun hc24 hw24 hm24 => ?_)
              refine f_if rfl (bI_r _) (fun c4 => ?_) (fun c4 => ?_)
              · have c4 : ¬ (bI (sn m 3 (m 68 1)) : Int) = (0 : Int) := c4
                refine f_s [fi (0)] rfl rfl ?_
                refine f_ist [(4, fi (0)), (5, fi (1)), (3, fi (3)), (2, fi (b)), (0, .ref 55), (1, fi (k))] rfl (by decide) hL rfl (fun L165 hL165 => ?_)
                refine f_inc 1 [(5, fi (2)), (4, fi (0)), (3, fi (3)), (2, fi (b)), (0, .ref 55), (1, fi (k))] rfl (by decide) hL165 rfl rfl (fun L166 hL166 => ?_)
                refine f_goto rfl ?_
                have e9 : wmE m k 3 3 1 true = false := (if_pos (by omega)).trans (by rw [decide_eq_false (fun z => z c2), decide_eq_true c3, bI1 c4]; rfl)
                rw [e9] at hG
                exact hI2_0 hc24 _ hw24 hm24 hG (hL166.sel [0, 1, 2, 3, 4, 5] rfl)
              · have c4 : ¬ (¬ (bI (sn m 3 (m 68 1)) : Int) = (0 : Int)) := c4
                refine f_s [fi (1)] rfl rfl ?_
                refine f_goto rfl ?_
                refine f_ist [(4, fi (1)), (5, fi (1)), (3, fi (3)), (2, fi (b)), (0, .ref 55), (1, fi (k))] rfl (by decide) hL rfl (fun L167 hL167 => ?_)
                refine f_inc 1 [(5, fi (2)), (4, fi (1)), (3, fi (3)), (2, fi (b)), (0, .ref 55), (1, fi (k))] rfl (by decide) hL167 rfl rfl (fun L168 hL168 => ?_)
                refine f_goto rfl ?_
                have e9 : wmE m k 3 3 1 true = true := (if_pos (by omega)).trans (by rw [decide_eq_false (fun z => z c2), decide_eq_true c3, bI0 (Classical.byContradiction c4)]; rfl)
                rw [e9] at hG
                exact hI2_1 hc24 _ hw24 hm24 hG (hL168.sel [0, 1, 2, 3, 4, 5] rfl)
      have hI0_0 : ∀ (hc : ev_H) (L : ev_L), y_in yGw hc → gi hc = m → wmE m k 3 3 5 (wmE m k 3 3 4 (wmE m k 3 3 3 (wmE m k 3 3 2 (wmE m k 3 3 1 (wmE m k 3 3 0 (false)))))) = wmB m k 3 3 → f_L L [(5, fi (0)), (4, fi (0)), (3, fi (3)), (2, fi (b)), (0, .ref 55), (1, fi (k))] → x_W none (1, 0, 6, 1, 11, 3, 66, 0, 0, ev_t160) 54 L [] hc 0 0 (fun r' h' => r' = some (fi (wm1 m k 4 4 (iS 1 4) (wm1 m k 3 3 (iS 1 3) (b)))) ∧ y_in yGw h' ∧ gi h' = m) := fun hc L hw hm hG hL => by
        refine f_il 0 rfl hL rfl ?_
        refine f_aln 4 rfl hL rfl ?_
        refine m_gfi so55 (m 55 21) rfl hw hm rfl rfl ?_
        refine f_ic rfl (by decide) (by omega) (fun ci => ?_) (fun ci => ?_)
        · have ci : (m 55 21 : Int) ≤ (0 : Int) := ci
          have e8 : wmE m k 3 3 5 (wmE m k 3 3 4 (wmE m k 3 3 3 (wmE m k 3 3 2 (wmE m k 3 3 1 (wmE m k 3 3 0 (false)))))) = false := by unfold wmE; rw [if_neg (by omega), if_neg (by omega), if_neg (by omega), if_neg (by omega), if_neg (by omega), if_neg (by omega)]
          rw [e8] at hG
          refine f_iln 3 rfl hL rfl ?_
          refine f_il 1 rfl hL rfl ?_
          refine f_if rfl (by decide) (fun _ => ?_) (fun c_9 => absurd (show (0 : Int) = (0 : Int) from (by decide)) c_9)
          refine f_s [fi (0), fi (b)] rfl rfl ?_
          refine b_ior rfl ?_
          refine f_istn [(2, fi (iO (b) (0))), (5, fi (0)), (4, fi (0)), (3, fi (3)), (0, .ref 55), (1, fi (k))] rfl (by decide) hL rfl (fun L169 hL169 => ?_)
          refine f_inc 3 [(3, fi (4)), (2, fi (iO (b) (0))), (5, fi (0)), (4, fi (0)), (0, .ref 55), (1, fi (k))] rfl (by decide) hL169 rfl rfl (fun L170 hL170 => ?_)
          refine f_goto rfl ?_
          have e9 : wm1 m k 3 3 (iS 1 3) b = iO (b) (0) := (if_pos pp).trans (by rw [← hG, if_neg (by decide)])
          rw [e9]
          exact hK4 hc _ _ hw hm (hL170.sel [0, 1, 4, 5] rfl)
        · have ci : ¬ ((m 55 21 : Int) ≤ (0 : Int)) := ci
          refine f_il 1 rfl hL rfl ?_
          refine f_if rfl (by decide) (fun _ => ?_) (fun c_9 => absurd (show (0 : Int) = (0 : Int) from (by decide)) c_9)
          refine f_s [fi (0)] rfl rfl ?_
          refine f_ist [(4, fi (0)), (5, fi (0)), (3, fi (3)), (2, fi (b)), (0, .ref 55), (1, fi (k))] rfl (by decide) hL rfl (fun L171 hL171 => ?_)
          refine f_inc 1 [(5, fi (1)), (4, fi (0)), (3, fi (3)), (2, fi (b)), (0, .ref 55), (1, fi (k))] rfl (by decide) hL171 rfl rfl (fun L172 hL172 => ?_)
          refine f_goto rfl ?_
          have e9 : wmE m k 3 3 0 false = false := (if_pos (by omega)).trans (by rfl)
          rw [e9] at hG
          exact hI1_0 hc _ hw hm hG (hL172.sel [0, 1, 2, 3, 4, 5] rfl)
      have hI0_1 : ∀ (hc : ev_H) (L : ev_L), y_in yGw hc → gi hc = m → wmE m k 3 3 5 (wmE m k 3 3 4 (wmE m k 3 3 3 (wmE m k 3 3 2 (wmE m k 3 3 1 (wmE m k 3 3 0 (true)))))) = wmB m k 3 3 → f_L L [(5, fi (0)), (4, fi (1)), (3, fi (3)), (2, fi (b)), (0, .ref 55), (1, fi (k))] → x_W none (1, 0, 6, 1, 11, 3, 66, 0, 0, ev_t160) 54 L [] hc 0 0 (fun r' h' => r' = some (fi (wm1 m k 4 4 (iS 1 4) (wm1 m k 3 3 (iS 1 3) (b)))) ∧ y_in yGw h' ∧ gi h' = m) := fun hc L hw hm hG hL => by
        refine f_il 0 rfl hL rfl ?_
        refine f_aln 4 rfl hL rfl ?_
        refine m_gfi so55 (m 55 21) rfl hw hm rfl rfl ?_
        refine f_ic rfl (by decide) (by omega) (fun ci => ?_) (fun ci => ?_)
        · have ci : (m 55 21 : Int) ≤ (0 : Int) := ci
          have e8 : wmE m k 3 3 5 (wmE m k 3 3 4 (wmE m k 3 3 3 (wmE m k 3 3 2 (wmE m k 3 3 1 (wmE m k 3 3 0 (true)))))) = true := by unfold wmE; rw [if_neg (by omega), if_neg (by omega), if_neg (by omega), if_neg (by omega), if_neg (by omega), if_neg (by omega)]
          rw [e8] at hG
          refine f_iln 3 rfl hL rfl ?_
          refine f_il 1 rfl hL rfl ?_
          refine f_if rfl (by decide) (fun c_9 => absurd (show (1 : Int) = (0 : Int) from c_9) (by decide)) (fun _ => ?_)
          refine f_s [fi (1), fi (b)] rfl rfl ?_
          refine f_iln 2 rfl hL rfl ?_
          refine b_ishl rfl ?_
          refine f_goto rfl ?_
          refine b_ior rfl ?_
          refine f_istn [(2, fi (iO (b) (iS (1) (3)))), (5, fi (0)), (4, fi (1)), (3, fi (3)), (0, .ref 55), (1, fi (k))] rfl (by decide) hL rfl (fun L173 hL173 => ?_)
          refine f_inc 3 [(3, fi (4)), (2, fi (iO (b) (iS (1) (3)))), (5, fi (0)), (4, fi (1)), (0, .ref 55), (1, fi (k))] rfl (by decide) hL173 rfl rfl (fun L174 hL174 => ?_)
          refine f_goto rfl ?_
          have e9 : wm1 m k 3 3 (iS 1 3) b = iO (b) (iS (1) (3)) := (if_pos pp).trans (by rw [← hG, if_pos rfl])
          rw [e9]
          exact hK4 hc _ _ hw hm (hL174.sel [0, 1, 4, 5] rfl)
        · have ci : ¬ ((m 55 21 : Int) ≤ (0 : Int)) := ci
          refine f_il 1 rfl hL rfl ?_
          refine f_if rfl (by decide) (fun c_9 => absurd (show (1 : Int) = (0 : Int) from c_9) (by decide)) (fun _ => ?_)
          refine f_aln 4 rfl hL rfl ?_
          refine m_gfr so55 rfl hw rfl (by decide) ?_
          refine f_il 0 rfl hL rfl ?_
          refine m_ia sa67 (m 67 0) rfl hw hm (by omega) (by omega) (by decide) rfl ?_
          refine f_s [fi (5), fi (m 67 0)] rfl rfl ?_
          refine f_iln 5 rfl hL rfl ?_
          refine f_iadd rfl ?_
          refine f_ic rfl (hR 67 0) (by omega) (fun c2 => ?_) (fun c2 => ?_)
          · have c2 : ¬ (m 67 0 : Int) = (5 + k : Int) := c2
            refine f_s [fi (1)] rfl rfl ?_
            refine f_goto rfl ?_
            refine f_ist [(4, fi (1)), (5, fi (0)), (3, fi (3)), (2, fi (b)), (0, .ref 55), (1, fi (k))] rfl (by decide) hL rfl (fun L175 hL175 => ?_)
            refine f_inc 1 [(5, fi (1)), (4, fi (1)), (3, fi (3)), (2, fi (b)), (0, .ref 55), (1, fi (k))] rfl (by decide) hL175 rfl rfl (fun L176 hL176 => ?_)
            refine f_goto rfl ?_
            have e9 : wmE m k 3 3 0 true = true := (if_pos (by omega)).trans (by rw [decide_eq_true c2]; rfl)
            rw [e9] at hG
            exact hI1_1 hc _ hw hm hG (hL176.sel [0, 1, 2, 3, 4, 5] rfl)
          · have c2 : ¬ (¬ (m 67 0 : Int) = (5 + k : Int)) := c2
            refine f_aln 4 rfl hL rfl ?_
            refine f_s [fi (0), .ref 55] rfl rfl ?_
            refine f_iln 2 rfl hL rfl ?_
            refine f_aln 4 rfl hL rfl ?_
            refine m_gfr so55 rfl hw rfl (by decide) ?_
            refine f_il 0 rfl hL rfl ?_
            refine m_ia sa68 (m 68 0) rfl hw hm (by omega) (by omega) (by decide) rfl ?_
            refine m_k1 (t90_0 (p := 3) (h := m 68 0) (by decide) (by decide) (hR 68 0) (fv := m 58 3) rfl (hR 58 _) (uv := m 59 3) rfl (hR 59 _)) hw hm rfl rfl rfl (m_ar so55 hw rfl) rfl (fun hc25 hw25 hm25 => ?_)
            have c2 : m 67 0 = 5 + k := by omega
            refine f_if rfl (bI_r _) (fun c3 => ?_) (fun c3 => ?_)
            · have c3 : (bI (decide (¬ iA (iR (m 61 16) (3)) (1) = 1 ∧ m 58 3 ≤ m 68 0 ∧ m 68 0 ≤ m 59 3)) : Int) = (0 : Int) := c3
              have c3 : ¬ (¬ iA (iR (m 61 16) (3)) (1) = 1 ∧ m 58 3 ≤ m 68 0 ∧ m 68 0 ≤ m 59 3) := bI_f c3
              refine f_s [fi (0)] rfl rfl ?_
              refine f_ist [(4, fi (0)), (5, fi (0)), (3, fi (3)), (2, fi (b)), (0, .ref 55), (1, fi (k))] rfl (by decide) hL rfl (fun L177 hL177 => ?_)
              refine f_inc 1 [(5, fi (1)), (4, fi (0)), (3, fi (3)), (2, fi (b)), (0, .ref 55), (1, fi (k))] rfl (by decide) hL177 rfl rfl (fun L178 hL178 => ?_)
              refine f_goto rfl ?_
              have e9 : wmE m k 3 3 0 true = false := (if_pos (by omega)).trans (by rw [decide_eq_false (fun z => z c2), decide_eq_false c3]; rfl)
              rw [e9] at hG
              exact hI1_0 hc25 _ hw25 hm25 hG (hL178.sel [0, 1, 2, 3, 4, 5] rfl)
            · have c3 : ¬ ((bI (decide (¬ iA (iR (m 61 16) (3)) (1) = 1 ∧ m 58 3 ≤ m 68 0 ∧ m 68 0 ≤ m 59 3)) : Int) = (0 : Int)) := c3
              have c3 : ¬ iA (iR (m 61 16) (3)) (1) = 1 ∧ m 58 3 ≤ m 68 0 ∧ m 68 0 ≤ m 59 3 := bI_t c3
              refine f_aln 4 rfl hL rfl ?_
              refine f_iln 2 rfl hL rfl ?_
              refine f_aln 4 rfl hL rfl ?_
              refine m_gfr so55 rfl hw25 rfl (by decide) ?_
              refine f_il 0 rfl hL rfl ?_
              refine m_ia sa68 (m 68 0) rfl hw25 hm25 (by omega) (by omega) (by decide) rfl ?_
              refine m_k1 (show h_M 159 [.ref 55, fi (3), fi (m 68 0)] m (some (fi (bI (sn m 3 (m 68 0))))) m from se_sn m 3 (m 68 0) ▸ t159 ht (by decide) (hR 68 0)) hw25 hm25 rfl rfl rfl (m_ar so55 hw25 rfl) rfl (fun hc26 hw26 hm26 => ?_)
              refine f_if rfl (bI_r _) (fun c4 => ?_) (fun c4 => ?_)
              · have c4 : ¬ (bI (sn m 3 (m 68 0)) : Int) = (0 : Int) := c4
                refine f_s [fi (0)] rfl rfl ?_
                refine f_ist [(4, fi (0)), (5, fi (0)), (3, fi (3)), (2, fi (b)), (0, .ref 55), (1, fi (k))] rfl (by decide) hL rfl (fun L179 hL179 => ?_)
                refine f_inc 1 [(5, fi (1)), (4, fi (0)), (3, fi (3)), (2, fi (b)), (0, .ref 55), (1, fi (k))] rfl (by decide) hL179 rfl rfl (fun L180 hL180 => ?_)
                refine f_goto rfl ?_
                have e9 : wmE m k 3 3 0 true = false := (if_pos (by omega)).trans (by rw [decide_eq_false (fun z => z c2), decide_eq_true c3, bI1 c4]; rfl)
                rw [e9] at hG
                exact hI1_0 hc26 _ hw26 hm26 hG (hL180.sel [0, 1, 2, 3, 4, 5] rfl)
              · have c4 : ¬ (¬ (bI (sn m 3 (m 68 0)) : Int) = (0 : Int)) := c4
                refine f_s [fi (1)] rfl rfl ?_
                refine f_goto rfl ?_
                refine f_ist [(4, fi (1)), (5, fi (0)), (3, fi (3)), (2, fi (b)), (0, .ref 55), (1, fi (k))] rfl (by decide) hL rfl (fun L181 hL181 => ?_)
                refine f_inc 1 [(5, fi (1)), (4, fi (1)), (3, fi (3)), (2, fi (b)), (0, .ref 55), (1, fi (k))] rfl (by decide) hL181 rfl rfl (fun L182 hL182 => ?_)
                refine f_goto rfl ?_
                have e9 : wmE m k 3 3 0 true = true := (if_pos (by omega)).trans (by rw [decide_eq_false (fun z => z c2), decide_eq_true c3, bI0 (Classical.byContradiction c4)]; rfl)
                rw [e9] at hG
                exact hI1_1 hc26 _ hw26 hm26 hG (hL182.sel [0, 1, 2, 3, 4, 5] rfl)
      refine f_aln 2 rfl hL rfl ?_
      refine f_s [fi (0), .ref 55] rfl rfl ?_
      refine f_iln 0 rfl hL rfl ?_
      refine m_k1 (t74_0 (by decide)) hw hm rfl rfl rfl (m_ar so55 hw rfl) rfl (fun hc27 hw27 hm27 => ?_)
      refine f_if rfl (bI_r _) (fun d1 => ?_) (fun d1 => ?_)
      · have d1 : ¬ (bI (decide (iA (iR (m 61 16) (3)) (1) = 1)) : Int) = (0 : Int) := d1
        have d1 : iA (iR (m 61 16) (3)) (1) = 1 := bI_t d1
        refine f_s [fi (0)] rfl rfl ?_
        refine f_ist [(4, fi (0)), (3, fi (3)), (2, fi (b)), (0, .ref 55), (1, fi (k))] rfl (by decide) hL rfl (fun L183 hL183 => ?_)
        refine f_s [fi (0)] rfl rfl ?_
        refine f_ist [(5, fi (0)), (4, fi (0)), (3, fi (3)), (2, fi (b)), (0, .ref 55), (1, fi (k))] rfl (by decide) hL183 rfl (fun L184 hL184 => ?_)
        have e7 : false = decide (¬ iA (iR (m 61 16) 3) 1 = 1 ∧ iA (iR (m 60 3) k) 1 = 1) := (decide_eq_false (fun z => z.1 d1)).symm
        exact hI0_0 hc27 _ hw27 hm27 (by rw [e7]; rfl) (hL184.sel [0, 1, 2, 3, 4, 5] rfl)
      · have d1 : ¬ (¬ (bI (decide (iA (iR (m 61 16) (3)) (1) = 1)) : Int) = (0 : Int)) := d1
        have d1 : ¬ (iA (iR (m 61 16) (3)) (1) = 1) := bI_n d1
        refine f_aln 2 rfl hL rfl ?_
        refine m_gfr so55 rfl hw27 rfl (by decide) ?_
        refine f_iln 0 rfl hL rfl ?_
        refine m_ia sa60 (m 60 3) rfl hw27 hm27 (by omega) (by omega) (by decide) rfl ?_
        refine f_iln 3 rfl hL rfl ?_
        refine m_k1 (t73 (hR 60 3) rk) hw27 hm27 rfl rfl rfl rfl rfl (fun hc28 hw28 hm28 => ?_)
        refine f_if rfl (bI_r _) (fun d2 => ?_) (fun d2 => ?_)
        · have d2 : (bI (decide (iA (iR (m 60 3) (k)) (1) = 1)) : Int) = (0 : Int) := d2
          have d2 : ¬ (iA (iR (m 60 3) (k)) (1) = 1) := bI_f d2
          refine f_s [fi (0)] rfl rfl ?_
          refine f_ist [(4, fi (0)), (3, fi (3)), (2, fi (b)), (0, .ref 55), (1, fi (k))] rfl (by decide) hL rfl (fun L185 hL185 => ?_)
          refine f_s [fi (0)] rfl rfl ?_
          refine f_ist [(5, fi (0)), (4, fi (0)), (3, fi (3)), (2, fi (b)), (0, .ref 55), (1, fi (k))] rfl (by decide) hL185 rfl (fun L186 hL186 => ?_)
          have e7 : false = decide (¬ iA (iR (m 61 16) 3) 1 = 1 ∧ iA (iR (m 60 3) k) 1 = 1) := (decide_eq_false (fun z => d2 z.2)).symm
          exact hI0_0 hc28 _ hw28 hm28 (by rw [e7]; rfl) (hL186.sel [0, 1, 2, 3, 4, 5] rfl)
        · have d2 : ¬ ((bI (decide (iA (iR (m 60 3) (k)) (1) = 1)) : Int) = (0 : Int)) := d2
          have d2 : iA (iR (m 60 3) (k)) (1) = 1 := bI_t d2
          refine f_s [fi (1)] rfl rfl ?_
          refine f_goto rfl ?_
          refine f_ist [(4, fi (1)), (3, fi (3)), (2, fi (b)), (0, .ref 55), (1, fi (k))] rfl (by decide) hL rfl (fun L187 hL187 => ?_)
          refine f_s [fi (0)] rfl rfl ?_
          refine f_ist [(5, fi (0)), (4, fi (1)), (3, fi (3)), (2, fi (b)), (0, .ref 55), (1, fi (k))] rfl (by decide) hL187 rfl (fun L188 hL188 => ?_)
          have e7 : true = decide (¬ iA (iR (m 61 16) 3) 1 = 1 ∧ iA (iR (m 60 3) k) 1 = 1) := (decide_eq_true ⟨d1, d2⟩).symm
          exact hI0_1 hc28 _ hw28 hm28 (by rw [e7]; rfl) (hL188.sel [0, 1, 2, 3, 4, 5] rfl)
  have hK2 : ∀ (hc : ev_H) (b : Int) (L : ev_L), y_in yGw hc → gi hc = m → f_L L [(3, fi (2)), (2, fi (b)), (0, .ref 55), (1, fi (k))] → x_W none (1, 0, 6, 1, 11, 3, 66, 0, 0, ev_t160) 14 L [] hc 0 0 (fun r' h' => r' = some (fi (wm1 m k 4 4 (iS 1 4) (wm1 m k 3 3 (iS 1 3) (wm1 m k 2 2 (iS 1 2) (b))))) ∧ y_in yGw h' ∧ gi h' = m) := fun hc b L hw hm hL => by
    refine f_iln 0 rfl hL rfl ?_
    refine f_aln 2 rfl hL rfl ?_
    refine m_gfi so55 (m 55 1) rfl hw hm rfl rfl ?_
    refine f_ic rfl (by decide) (by omega) (fun c1 => ?_) (fun c1 => ?_)
    · have c1 : (m 55 1 : Int) ≤ (2 : Int) := c1
      have e8 : wm1 m k 4 4 (iS 1 4) (wm1 m k 3 3 (iS 1 3) (wm1 m k 2 2 (iS 1 2) (b))) = b := by unfold wm1; rw [if_neg (by omega), if_neg (by omega), if_neg (by omega)]
      rw [e8]
      refine f_iln 1 rfl hL rfl ?_
      exact f_ret1 rfl ⟨rfl, hw, hm⟩
    · have c1 : ¬ ((m 55 1 : Int) ≤ (2 : Int)) := c1
      have pp : (2 : Int) < m 55 1 := by omega
      have hI6_0 : ∀ (hc : ev_H) (L : ev_L), y_in yGw hc → gi hc = m → false = wmB m k 2 2 → f_L L [(5, fi (6)), (4, fi (0)), (3, fi (2)), (2, fi (b)), (0, .ref 55), (1, fi (k))] → x_W none (1, 0, 6, 1, 11, 3, 66, 0, 0, ev_t160) 54 L [] hc 0 0 (fun r' h' => r' = some (fi (wm1 m k 4 4 (iS 1 4) (wm1 m k 3 3 (iS 1 3) (wm1 m k 2 2 (iS 1 2) (b))))) ∧ y_in yGw h' ∧ gi h' = m) := fun hc L hw hm hG hL => by
        refine f_il 0 rfl hL rfl ?_
        refine f_aln 4 rfl hL rfl ?_
        refine m_gfi so55 (m 55 21) rfl hw hm rfl rfl ?_
        refine f_ic rfl (by decide) (by omega) (fun _ => ?_) (fun c_9 => absurd (show (m 55 21 : Int) ≤ (6 : Int) from (by omega)) c_9)
        refine f_iln 3 rfl hL rfl ?_
        refine f_il 1 rfl hL rfl ?_
        refine f_if rfl (by decide) (fun _ => ?_) (fun c_9 => absurd (show (0 : Int) = (0 : Int) from (by decide)) c_9)
        refine f_s [fi (0), fi (b)] rfl rfl ?_
        refine b_ior rfl ?_
        refine f_istn [(2, fi (iO (b) (0))), (5, fi (6)), (4, fi (0)), (3, fi (2)), (0, .ref 55), (1, fi (k))] rfl (by decide) hL rfl (fun L189 hL189 => ?_)
        refine f_inc 3 [(3, fi (3)), (2, fi (iO (b) (0))), (5, fi (6)), (4, fi (0)), (0, .ref 55), (1, fi (k))] rfl (by decide) hL189 rfl rfl (fun L190 hL190 => ?_)
        refine f_goto rfl ?_
        have e9 : wm1 m k 2 2 (iS 1 2) b = iO (b) (0) := (if_pos pp).trans (by rw [← hG, if_neg (by decide)])
        rw [e9]
        exact hK3 hc _ _ hw hm (hL190.sel [0, 1, 4, 5] rfl)
      have hI6_1 : ∀ (hc : ev_H) (L : ev_L), y_in yGw hc → gi hc = m → true = wmB m k 2 2 → f_L L [(5, fi (6)), (4, fi (1)), (3, fi (2)), (2, fi (b)), (0, .ref 55), (1, fi (k))] → x_W none (1, 0, 6, 1, 11, 3, 66, 0, 0, ev_t160) 54 L [] hc 0 0 (fun r' h' => r' = some (fi (wm1 m k 4 4 (iS 1 4) (wm1 m k 3 3 (iS 1 3) (wm1 m k 2 2 (iS 1 2) (b))))) ∧ y_in yGw h' ∧ gi h' = m) := fun hc L hw hm hG hL => by
        refine f_il 0 rfl hL rfl ?_
        refine f_aln 4 rfl hL rfl ?_
        refine m_gfi so55 (m 55 21) rfl hw hm rfl rfl ?_
        refine f_ic rfl (by decide) (by omega) (fun _ => ?_) (fun c_9 => absurd (show (m 55 21 : Int) ≤ (6 : Int) from (by omega)) c_9)
        refine f_iln 3 rfl hL rfl ?_
        refine f_il 1 rfl hL rfl ?_
        refine f_if rfl (by decide) (fun c_9 => absurd (show (1 : Int) = (0 : Int) from c_9) (by decide)) (fun _ => ?_)
        refine f_s [fi (1), fi (b)] rfl rfl ?_
        refine f_iln 2 rfl hL rfl ?_
        refine b_ishl rfl ?_
        refine f_goto rfl ?_
        refine b_ior rfl ?_
        refine f_istn [(2, fi (iO (b) (iS (1) (2)))), (5, fi (6)), (4, fi (1)), (3, fi (2)), (0, .ref 55), (1, fi (k))] rfl (by decide) hL rfl (fun L191 hL191 => ?_)
        refine f_inc 3 [(3, fi (3)), (2, fi (iO (b) (iS (1) (2)))), (5, fi (6)), (4, fi (1)), (0, .ref 55), (1, fi (k))] rfl (by decide) hL191 rfl rfl (fun L192 hL192 => ?_)
        refine f_goto rfl ?_
        have e9 : wm1 m k 2 2 (iS 1 2) b = iO (b) (iS (1) (2)) := (if_pos pp).trans (by rw [← hG, if_pos rfl])
        rw [e9]
        exact hK3 hc _ _ hw hm (hL192.sel [0, 1, 4, 5] rfl)
      have hI5_0 : ∀ (hc : ev_H) (L : ev_L), y_in yGw hc → gi hc = m → wmE m k 2 2 5 (false) = wmB m k 2 2 → f_L L [(5, fi (5)), (4, fi (0)), (3, fi (2)), (2, fi (b)), (0, .ref 55), (1, fi (k))] → x_W none (1, 0, 6, 1, 11, 3, 66, 0, 0, ev_t160) 54 L [] hc 0 0 (fun r' h' => r' = some (fi (wm1 m k 4 4 (iS 1 4) (wm1 m k 3 3 (iS 1 3) (wm1 m k 2 2 (iS 1 2) (b))))) ∧ y_in yGw h' ∧ gi h' = m) := fun hc L hw hm hG hL => by
        refine f_il 0 rfl hL rfl ?_
        refine f_aln 4 rfl hL rfl ?_
        refine m_gfi so55 (m 55 21) rfl hw hm rfl rfl ?_
        refine f_ic rfl (by decide) (by omega) (fun ci => ?_) (fun ci => ?_)
        · have ci : (m 55 21 : Int) ≤ (5 : Int) := ci
          have e8 : wmE m k 2 2 5 (false) = false := by unfold wmE; rw [if_neg (by omega)]
          rw [e8] at hG
          refine f_iln 3 rfl hL rfl ?_
          refine f_il 1 rfl hL rfl ?_
          refine f_if rfl (by decide) (fun _ => ?_) (fun c_9 => absurd (show (0 : Int) = (0 : Int) from (by decide)) c_9)
          refine f_s [fi (0), fi (b)] rfl rfl ?_
          refine b_ior rfl ?_
          refine f_istn [(2, fi (iO (b) (0))), (5, fi (5)), (4, fi (0)), (3, fi (2)), (0, .ref 55), (1, fi (k))] rfl (by decide) hL rfl (fun L193 hL193 => ?_)
          refine f_inc 3 [(3, fi (3)), (2, fi (iO (b) (0))), (5, fi (5)), (4, fi (0)), (0, .ref 55), (1, fi (k))] rfl (by decide) hL193 rfl rfl (fun L194 hL194 => ?_)
          refine f_goto rfl ?_
          have e9 : wm1 m k 2 2 (iS 1 2) b = iO (b) (0) := (if_pos pp).trans (by rw [← hG, if_neg (by decide)])
          rw [e9]
          exact hK3 hc _ _ hw hm (hL194.sel [0, 1, 4, 5] rfl)
        · have ci : ¬ ((m 55 21 : Int) ≤ (5 : Int)) := ci
          refine f_il 1 rfl hL rfl ?_
          refine f_if rfl (by decide) (fun _ => ?_) (fun c_9 => absurd (show (0 : Int) = (0 : Int) from (by decide)) c_9)
          refine f_s [fi (0)] rfl rfl ?_
          refine f_ist [(4, fi (0)), (5, fi (5)), (3, fi (2)), (2, fi (b)), (0, .ref 55), (1, fi (k))] rfl (by decide) hL rfl (fun L195 hL195 => ?_)
          refine f_inc 1 [(5, fi (6)), (4, fi (0)), (3, fi (2)), (2, fi (b)), (0, .ref 55), (1, fi (k))] rfl (by decide) hL195 rfl rfl (fun L196 hL196 => ?_)
          refine f_goto rfl ?_
          have e9 : wmE m k 2 2 5 false = false := (if_pos (by omega)).trans (by rfl)
          rw [e9] at hG
          exact hI6_0 hc _ hw hm hG (hL196.sel [0, 1, 2, 3, 4, 5] rfl)
      have hI5_1 : ∀ (hc : ev_H) (L : ev_L), y_in yGw hc → gi hc = m → wmE m k 2 2 5 (true) = wmB m k 2 2 → f_L L [(5, fi (5)), (4, fi (1)), (3, fi (2)), (2, fi (b)), (0, .ref 55), (1, fi (k))] → x_W none (1, 0, 6, 1, 11, 3, 66, 0, 0, ev_t160) 54 L [] hc 0 0 (fun r' h' => r' = some (fi (wm1 m k 4 4 (iS 1 4) (wm1 m k 3 3 (iS 1 3) (wm1 m k 2 2 (iS 1 2) (b))))) ∧ y_in yGw h' ∧ gi h' = m) := fun hc L hw hm hG hL => by
        refine f_il 0 rfl hL rfl ?_
        refine f_aln 4 rfl hL rfl ?_
        refine m_gfi so55 (m 55 21) rfl hw hm rfl rfl ?_
        refine f_ic rfl (by decide) (by omega) (fun ci => ?_) (fun ci => ?_)
        · have ci : (m 55 21 : Int) ≤ (5 : Int) := ci
          have e8 : wmE m k 2 2 5 (true) = true := by unfold wmE; rw [if_neg (by omega)]
          rw [e8] at hG
          refine f_iln 3 rfl hL rfl ?_
          refine f_il 1 rfl hL rfl ?_
          refine f_if rfl (by decide) (fun c_9 => absurd (show (1 : Int) = (0 : Int) from c_9) (by decide)) (fun _ => ?_)
          refine f_s [fi (1), fi (b)] rfl rfl ?_
          refine f_iln 2 rfl hL rfl ?_
          refine b_ishl rfl ?_
          refine f_goto rfl ?_
          refine b_ior rfl ?_
          refine f_istn [(2, fi (iO (b) (iS (1) (2)))), (5, fi (5)), (4, fi (1)), (3, fi (2)), (0, .ref 55), (1, fi (k))] rfl (by decide) hL rfl (fun L197 hL197 => ?_)
          refine f_inc 3 [(3, fi (3)), (2, fi (iO (b) (iS (1) (2)))), (5, fi (5)), (4, fi (1)), (0, .ref 55), (1, fi (k))] rfl (by decide) hL197 rfl rfl (fun L198 hL198 => ?_)
          refine f_goto rfl ?_
          have e9 : wm1 m k 2 2 (iS 1 2) b = iO (b) (iS (1) (2)) := (if_pos pp).trans (by rw [← hG, if_pos rfl])
          rw [e9]
          exact hK3 hc _ _ hw hm (hL198.sel [0, 1, 4, 5] rfl)
        · have ci : ¬ ((m 55 21 : Int) ≤ (5 : Int)) := ci
          refine f_il 1 rfl hL rfl ?_
          refine f_if rfl (by decide) (fun c_9 => absurd (show (1 : Int) = (0 : Int) from c_9) (by decide)) (fun _ => ?_)
          refine f_aln 4 rfl hL rfl ?_
          refine m_gfr so55 rfl hw rfl (by decide) ?_
          refine f_il 0 rfl hL rfl ?_
          refine m_ia sa67 (m 67 5) rfl hw hm (by omega) (by omega) (by decide) rfl ?_
          refine f_s [fi (5), fi (m 67 5)] rfl rfl ?_
          refine f_iln 5 rfl hL rfl ?_
          refine f_iadd rfl ?_
          refine f_ic rfl (hR 67 5) (by omega) (fun c2 => ?_) (fun c2 => ?_)
          · have c2 : ¬ (m 67 5 : Int) = (5 + k : Int) := c2
            refine f_s [fi (1)] rfl rfl ?_
            refine f_goto rfl ?_
            refine f_ist [(4, fi (1)), (5, fi (5)), (3, fi (2)), (2, fi (b)), (0, .ref 55), (1, fi (k))] rfl (by decide) hL rfl (fun L199 hL199 => ?_)
            refine f_inc 1 [(5, fi (6)), (4, fi (1)), (3, fi (2)), (2, fi (b)), (0, .ref 55), (1, fi (k))] rfl (by decide) hL199 rfl rfl (fun L200 hL200 => ?_)
            refine f_goto rfl ?_
            have e9 : wmE m k 2 2 5 true = true := (if_pos (by omega)).trans (by rw [decide_eq_true c2]; rfl)
            rw [e9] at hG
            exact hI6_1 hc _ hw hm hG (hL200.sel [0, 1, 2, 3, 4, 5] rfl)
          · have c2 : ¬ (¬ (m 67 5 : Int) = (5 + k : Int)) := c2
            refine f_aln 4 rfl hL rfl ?_
            refine f_s [fi (0), .ref 55] rfl rfl ?_
            refine f_iln 2 rfl hL rfl ?_
            refine f_aln 4 rfl hL rfl ?_
            refine m_gfr so55 rfl hw rfl (by decide) ?_
            refine f_il 0 rfl hL rfl ?_
            refine m_ia sa68 (m 68 5) rfl hw hm (by omega) (by omega) (by decide) rfl ?_
            refine m_k1 (t90_0 (p := 2) (h := m 68 5) (by decide) (by decide) (hR 68 5) (fv := m 58 2) rfl (hR 58 _) (uv := m 59 2) rfl (hR 59 _)) hw hm rfl rfl rfl (m_ar so55 hw rfl) rfl (fun hc29 hw29 hm29 => ?_)
            have c2 : m 67 5 = 5 + k := by omega
            refine f_if rfl (bI_r _) (fun c3 => ?_) (fun c3 => ?_)
            · have c3 : (bI (decide (¬ iA (iR (m 61 16) (2)) (1) = 1 ∧ m 58 2 ≤ m 68 5 ∧ m 68 5 ≤ m 59 2)) : Int) = (0 : Int) := c3
              have c3 : ¬ (¬ iA (iR (m 61 16) (2)) (1) = 1 ∧ m 58 2 ≤ m 68 5 ∧ m 68 5 ≤ m 59 2) := bI_f c3
              refine f_s [fi (0)] rfl rfl ?_
              refine f_ist [(4, fi (0)), (5, fi (5)), (3, fi (2)), (2, fi (b)), (0, .ref 55), (1, fi (k))] rfl (by decide) hL rfl (fun L201 hL201 => ?_)
              refine f_inc 1 [(5, fi (6)), (4, fi (0)), (3, fi (2)), (2, fi (b)), (0, .ref 55), (1, fi (k))] rfl (by decide) hL201 rfl rfl (fun L202 hL202 => ?_)
              refine f_goto rfl ?_
              have e9 : wmE m k 2 2 5 true = false := (if_pos (by omega)).trans (by rw [decide_eq_false (fun z => z c2), decide_eq_false c3]; rfl)
              rw [e9] at hG
              exact hI6_0 hc29 _ hw29 hm29 hG (hL202.sel [0, 1, 2, 3, 4, 5] rfl)
            · have c3 : ¬ ((bI (decide (¬ iA (iR (m 61 16) (2)) (1) = 1 ∧ m 58 2 ≤ m 68 5 ∧ m 68 5 ≤ m 59 2)) : Int) = (0 : Int)) := c3
              have c3 : ¬ iA (iR (m 61 16) (2)) (1) = 1 ∧ m 58 2 ≤ m 68 5 ∧ m 68 5 ≤ m 59 2 := bI_t c3
              refine f_aln 4 rfl hL rfl ?_
              refine f_iln 2 rfl hL rfl ?_
              refine f_aln 4 rfl hL rfl ?_
              refine m_gfr so55 rfl hw29 rfl (by decide) ?_
              refine f_il 0 rfl hL rfl ?_
              refine m_ia sa68 (m 68 5) rfl hw29 hm29 (by omega) (by omega) (by decide) rfl ?_
              refine m_k1 (show h_M 159 [.ref 55, fi (2), fi (m 68 5)] m (some (fi (bI (sn m 2 (m 68 5))))) m from se_sn m 2 (m 68 5) ▸ t159 ht (by decide) (hR 68 5)) hw29 hm29 rfl rfl rfl (m_ar so55 hw29 rfl) rfl (fun hc30 hw30 hm30 => ?_)
              refine f_if rfl (bI_r _) (fun c4 => ?_) (fun c4 => ?_)
              · have c4 : ¬ (bI (sn m 2 (m 68 5)) : Int) = (0 : Int) := c4
                refine f_s [fi (0)] rfl rfl ?_
                refine f_ist [(4, fi (0)), (5, fi (5)), (3, fi (2)), (2, fi (b)), (0, .ref 55), (1, fi (k))] rfl (by decide) hL rfl (fun L203 hL203 => ?_)
                refine f_inc 1 [(5, fi (6)), (4, fi (0)), (3, fi (2)), (2, fi (b)), (0, .ref 55), (1, fi (k))] rfl (by decide) hL203 rfl rfl (fun L204 hL204 => ?_)
                refine f_goto rfl ?_
                have e9 : wmE m k 2 2 5 true = false := (if_pos (by omega)).trans (by rw [decide_eq_false (fun z => z c2), decide_eq_true c3, bI1 c4]; rfl)
                rw [e9] at hG
                exact hI6_0 hc30 _ hw30 hm30 hG (hL204.sel [0, 1, 2, 3, 4, 5] rfl)
              · have c4 : ¬ (¬ (bI (sn m 2 (m 68 5)) : Int) = (0 : Int)) := c4
                refine f_s [fi (1)] rfl rfl ?_
                refine f_goto rfl ?_
                refine f_ist [(4, fi (1)), (5, fi (5)), (3, fi (2)), (2, fi (b)), (0, .ref 55), (1, fi (k))] rfl (by decide) hL rfl (fun L205 hL205 => ?_)
                refine f_inc 1 [(5, fi (6)), (4, fi (1)), (3, fi (2)), (2, fi (b)), (0, .ref 55), (1, fi (k))] rfl (by decide) hL205 rfl rfl (fun L206 hL206 => ?_)
                refine f_goto rfl ?_
                have e9 : wmE m k 2 2 5 true = true := (if_pos (by omega)).trans (by rw [decide_eq_false (fun z => z c2), decide_eq_true c3, bI0 (Classical.byContradiction c4)]; rfl)
                rw [e9] at hG
                exact hI6_1 hc30 _ hw30 hm30 hG (hL206.sel [0, 1, 2, 3, 4, 5] rfl)
      have hI4_0 : ∀ (hc : ev_H) (L : ev_L), y_in yGw hc → gi hc = m → wmE m k 2 2 5 (wmE m k 2 2 4 (false)) = wmB m k 2 2 → f_L L [(5, fi (4)), (4, fi (0)), (3, fi (2)), (2, fi (b)), (0, .ref 55), (1, fi (k))] → x_W none (1, 0, 6, 1, 11, 3, 66, 0, 0, ev_t160) 54 L [] hc 0 0 (fun r' h' => r' = some (fi (wm1 m k 4 4 (iS 1 4) (wm1 m k 3 3 (iS 1 3) (wm1 m k 2 2 (iS 1 2) (b))))) ∧ y_in yGw h' ∧ gi h' = m) := fun hc L hw hm hG hL => by
        refine f_il 0 rfl hL rfl ?_
        refine f_aln 4 rfl hL rfl ?_
        refine m_gfi so55 (m 55 21) rfl hw hm rfl rfl ?_
        refine f_ic rfl (by decide) (by omega) (fun ci => ?_) (fun ci => ?_)
        · have ci : (m 55 21 : Int) ≤ (4 : Int) := ci
          have e8 : wmE m k 2 2 5 (wmE m k 2 2 4 (false)) = false := by unfold wmE; rw [if_neg (by omega), if_neg (by omega)]
          rw [e8] at hG
          refine f_iln 3 rfl hL rfl ?_
          refine f_il 1 rfl hL rfl ?_
          refine f_if rfl (by decide) (fun _ => ?_) (fun c_9 => absurd (show (0 : Int) = (0 : Int) from (by decide)) c_9)
          refine f_s [fi (0), fi (b)] rfl rfl ?_
          refine b_ior rfl ?_
          refine f_istn [(2, fi (iO (b) (0))), (5, fi (4)), (4, fi (0)), (3, fi (2)), (0, .ref 55), (1, fi (k))] rfl (by decide) hL rfl (fun L207 hL207 => ?_)
          refine f_inc 3 [(3, fi (3)), (2, fi (iO (b) (0))), (5, fi (4)), (4, fi (0)), (0, .ref 55), (1, fi (k))] rfl (by decide) hL207 rfl rfl (fun L208 hL208 => ?_)
          refine f_goto rfl ?_
          have e9 : wm1 m k 2 2 (iS 1 2) b = iO (b) (0) := (if_pos pp).trans (by rw [← hG, if_neg (by decide)])
          rw [e9]
          exact hK3 hc _ _ hw hm (hL208.sel [0, 1, 4, 5] rfl)
        · have ci : ¬ ((m 55 21 : Int) ≤ (4 : Int)) := ci
          refine f_il 1 rfl hL rfl ?_
          refine f_if rfl (by decide) (fun _ => ?_) (fun c_9 => absurd (show (0 : Int) = (0 : Int) from (by decide)) c_9)
          refine f_s [fi (0)] rfl rfl ?_
          refine f_ist [(4, fi (0)), (5, fi (4)), (3, fi (2)), (2, fi (b)), (0, .ref 55), (1, fi (k))] rfl (by decide) hL rfl (fun L209 hL209 => ?_)
          refine f_inc 1 [(5, fi (5)), (4, fi (0)), (3, fi (2)), (2, fi (b)), (0, .ref 55), (1, fi (k))] rfl (by decide) hL209 rfl rfl (fun L210 hL210 => ?_)
          refine f_goto rfl ?_
          have e9 : wmE m k 2 2 4 false = false := (if_pos (by omega)).trans (by rfl)
          rw [e9] at hG
          exact hI5_0 hc _ hw hm hG (hL210.sel [0, 1, 2, 3, 4, 5] rfl)
      have hI4_1 : ∀ (hc : ev_H) (L : ev_L), y_in yGw hc → gi hc = m → wmE m k 2 2 5 (wmE m k 2 2 4 (true)) = wmB m k 2 2 → f_L L [(5, fi (4)), (4, fi (1)), (3, fi (2)), (2, fi (b)), (0, .ref 55), (1, fi (k))] → x_W none (1, 0, 6, 1, 11, 3, 66, 0, 0, ev_t160) 54 L [] hc 0 0 (fun r' h' => r' = some (fi (wm1 m k 4 4 (iS 1 4) (wm1 m k 3 3 (iS 1 3) (wm1 m k 2 2 (iS 1 2) (b))))) ∧ y_in yGw h' ∧ gi h' = m) := fun hc L hw hm hG hL => by
        refine f_il 0 rfl hL rfl ?_
        refine f_aln 4 rfl hL rfl ?_
        refine m_gfi so55 (m 55 21) rfl hw hm rfl rfl ?_
        refine f_ic rfl (by decide) (by omega) (fun ci => ?_) (fun ci => ?_)
        · have ci : (m 55 21 : Int) ≤ (4 : Int) := ci
          have e8 : wmE m k 2 2 5 (wmE m k 2 2 4 (true)) = true := by unfold wmE; rw [if_neg (by omega), if_neg (by omega)]
          rw [e8] at hG
          refine f_iln 3 rfl hL rfl ?_
          refine f_il 1 rfl hL rfl ?_
          refine f_if rfl (by decide) (fun c_9 => absurd (show (1 : Int) = (0 : Int) from c_9) (by decide)) (fun _ => ?_)
          refine f_s [fi (1), fi (b)] rfl rfl ?_
          refine f_iln 2 rfl hL rfl ?_
          refine b_ishl rfl ?_
          refine f_goto rfl ?_
          refine b_ior rfl ?_
          refine f_istn [(2, fi (iO (b) (iS (1) (2)))), (5, fi (4)), (4, fi (1)), (3, fi (2)), (0, .ref 55), (1, fi (k))] rfl (by decide) hL rfl (fun L211 hL211 => ?_)
          refine f_inc 3 [(3, fi (3)), (2, fi (iO (b) (iS (1) (2)))), (5, fi (4)), (4, fi (1)), (0, .ref 55), (1, fi (k))] rfl (by decide) hL211 rfl rfl (fun L212 hL212 => ?_)
          refine f_goto rfl ?_
          have e9 : wm1 m k 2 2 (iS 1 2) b = iO (b) (iS (1) (2)) := (if_pos pp).trans (by rw [← hG, if_pos rfl])
          rw [e9]
          exact hK3 hc _ _ hw hm (hL212.sel [0, 1, 4, 5] rfl)
        · have ci : ¬ ((m 55 21 : Int) ≤ (4 : Int)) := ci
          refine f_il 1 rfl hL rfl ?_
          refine f_if rfl (by decide) (fun c_9 => absurd (show (1 : Int) = (0 : Int) from c_9) (by decide)) (fun _ => ?_)
          refine f_aln 4 rfl hL rfl ?_
          refine m_gfr so55 rfl hw rfl (by decide) ?_
          refine f_il 0 rfl hL rfl ?_
          refine m_ia sa67 (m 67 4) rfl hw hm (by omega) (by omega) (by decide) rfl ?_
          refine f_s [fi (5), fi (m 67 4)] rfl rfl ?_
          refine f_iln 5 rfl hL rfl ?_
          refine f_iadd rfl ?_
          refine f_ic rfl (hR 67 4) (by omega) (fun c2 => ?_) (fun c2 => ?_)
          · have c2 : ¬ (m 67 4 : Int) = (5 + k : Int) := c2
            refine f_s [fi (1)] rfl rfl ?_
            refine f_goto rfl ?_
            refine f_ist [(4, fi (1)), (5, fi (4)), (3, fi (2)), (2, fi (b)), (0, .ref 55), (1, fi (k))] rfl (by decide) hL rfl (fun L213 hL213 => ?_)
            refine f_inc 1 [(5, fi (5)), (4, fi (1)), (3, fi (2)), (2, fi (b)), (0, .ref 55), (1, fi (k))] rfl (by decide) hL213 rfl rfl (fun L214 hL214 => ?_)
            refine f_goto rfl ?_
            have e9 : wmE m k 2 2 4 true = true := (if_pos (by omega)).trans (by rw [decide_eq_true c2]; rfl)
            rw [e9] at hG
            exact hI5_1 hc _ hw hm hG (hL214.sel [0, 1, 2, 3, 4, 5] rfl)
          · have c2 : ¬ (¬ (m 67 4 : Int) = (5 + k : Int)) := c2
            refine f_aln 4 rfl hL rfl ?_
            refine f_s [fi (0), .ref 55] rfl rfl ?_
            refine f_iln 2 rfl hL rfl ?_
            refine f_aln 4 rfl hL rfl ?_
            refine m_gfr so55 rfl hw rfl (by decide) ?_
            refine f_il 0 rfl hL rfl ?_
            refine m_ia sa68 (m 68 4) rfl hw hm (by omega) (by omega) (by decide) rfl ?_
            refine m_k1 (t90_0 (p := 2) (h := m 68 4) (by decide) (by decide) (hR 68 4) (fv := m 58 2) rfl (hR 58 _) (uv := m 59 2) rfl (hR 59 _)) hw hm rfl rfl rfl (m_ar so55 hw rfl) rfl (fun hc31 hw31 hm31 => ?_)
            have c2 : m 67 4 = 5 + k := by omega
            refine f_if rfl (bI_r _) (fun c3 => ?_) (fun c3 => ?_)
            · have c3 : (bI (decide (¬ iA (iR (m 61 16) (2)) (1) = 1 ∧ m 58 2 ≤ m 68 4 ∧ m 68 4 ≤ m 59 2)) : Int) = (0 : Int) := c3
              have c3 : ¬ (¬ iA (iR (m 61 16) (2)) (1) = 1 ∧ m 58 2 ≤ m 68 4 ∧ m 68 4 ≤ m 59 2) := bI_f c3
              refine f_s [fi (0)] rfl rfl ?_
              refine f_ist [(4, fi (0)), (5, fi (4)), (3, fi (2)), (2, fi (b)), (0, .ref 55), (1, fi (k))] rfl (by decide) hL rfl (fun L215 hL215 => ?_)
              refine f_inc 1 [(5, fi (5)), (4, fi (0)), (3, fi (2)), (2, fi (b)), (0, .ref 55), (1, fi (k))] rfl (by decide) hL215 rfl rfl (fun L216 hL216 => ?_)
              refine f_goto rfl ?_
              have e9 : wmE m k 2 2 4 true = false := (if_pos (by omega)).trans (by rw [decide_eq_false (fun z => z c2), decide_eq_false c3]; rfl)
              rw [e9] at hG
              exact hI5_0 hc31 _ hw31 hm31 hG (hL216.sel [0, 1, 2, 3, 4, 5] rfl)
            · have c3 : ¬ ((bI (decide (¬ iA (iR (m 61 16) (2)) (1) = 1 ∧ m 58 2 ≤ m 68 4 ∧ m 68 4 ≤ m 59 2)) : Int) = (0 : Int)) := c3
              have c3 : ¬ iA (iR (m 61 16) (2)) (1) = 1 ∧ m 58 2 ≤ m 68 4 ∧ m 68 4 ≤ m 59 2 := bI_t c3
              refine f_aln 4 rfl hL rfl ?_
              refine f_iln 2 rfl hL rfl ?_
              refine f_aln 4 rfl hL rfl ?_
              refine m_gfr so55 rfl hw31 rfl (by decide) ?_
              refine f_il 0 rfl hL rfl ?_
              refine m_ia sa68 (m 68 4) rfl hw31 hm31 (by omega) (by omega) (by decide) rfl ?_
              refine m_k1 (show h_M 159 [.ref 55, fi (2), fi (m 68 4)] m (some (fi (bI (sn m 2 (m 68 4))))) m from se_sn m 2 (m 68 4) ▸ t159 ht (by decide) (hR 68 4)) hw31 hm31 rfl rfl rfl (m_ar so55 hw31 rfl) rfl (fun hc32 hw32 hm32 => ?_)
              refine f_if rfl (bI_r _) (fun c4 => ?_) (fun c4 => ?_)
              · have c4 : ¬ (bI (sn m 2 (m 68 4)) : Int) = (0 : Int) := c4
                refine f_s [fi (0)] rfl rfl ?_
                refine f_ist [(4, fi (0)), (5, fi (4)), (3, fi (2)), (2, fi (b)), (0, .ref 55), (1, fi (k))] rfl (by decide) hL rfl (fun L217 hL217 => ?_)
                refine f_inc 1 [(5, fi (5)), (4, fi (0)), (3, fi (2)), (2, fi (b)), (0, .ref 55), (1, fi (k))] rfl (by decide) hL217 rfl rfl (fun L218 hL218 => ?_)
                refine f_goto rfl ?_
                have e9 : wmE m k 2 2 4 true = false := (if_pos (by omega)).trans (by rw [decide_eq_false (fun z => z c2), decide_eq_true c3, bI1 c4]; rfl)
                rw [e9] at hG
                exact hI5_0 hc32 _ hw32 hm32 hG (hL218.sel [0, 1, 2, 3, 4, 5] rfl)
              · have c4 : ¬ (¬ (bI (sn m 2 (m 68 4)) : Int) = (0 : Int)) := c4
                refine f_s [fi (1)] rfl rfl ?_
                refine f_goto rfl ?_
                refine f_ist [(4, fi (1)), (5, fi (4)), (3, fi (2)), (2, fi (b)), (0, .ref 55), (1, fi (k))] rfl (by decide) hL rfl (fun L219 hL219 => ?_)
                refine f_inc 1 [(5, fi (5)), (4, fi (1)), (3, fi (2)), (2, fi (b)), (0, .ref 55), (1, fi (k))] rfl (by decide) hL219 rfl rfl (fun L220 hL220 => ?_)
                refine f_goto rfl ?_
                have e9 : wmE m k 2 2 4 true = true := (if_pos (by omega)).trans (by rw [decide_eq_false (fun z => z c2), decide_eq_true c3, bI0 (Classical.byContradiction c4)]; rfl)
                rw [e9] at hG
                exact hI5_1 hc32 _ hw32 hm32 hG (hL220.sel [0, 1, 2, 3, 4, 5] rfl)
      have hI3_0 : ∀ (hc : ev_H) (L : ev_L), y_in yGw hc → gi hc = m → wmE m k 2 2 5 (wmE m k 2 2 4 (wmE m k 2 2 3 (false))) = wmB m k 2 2 → f_L L [(5, fi (3)), (4, fi (0)), (3, fi (2)), (2, fi (b)), (0, .ref 55), (1, fi (k))] → x_W none (1, 0, 6, 1, 11, 3, 66, 0, 0, ev_t160) 54 L [] hc 0 0 (fun r' h' => r' = some (fi (wm1 m k 4 4 (iS 1 4) (wm1 m k 3 3 (iS 1 3) (wm1 m k 2 2 (iS 1 2) (b))))) ∧ y_in yGw h' ∧ gi h' = m) := fun hc L hw hm hG hL => by
        refine f_il 0 rfl hL rfl ?_
        refine f_aln 4 rfl hL rfl ?_
        refine m_gfi so55 (m 55 21) rfl hw hm rfl rfl ?_
        refine f_ic rfl (by decide) (by omega) (fun ci => ?_) (fun ci => ?_)
        · have ci : (m 55 21 : Int) ≤ (3 : Int) := ci
          have e8 : wmE m k 2 2 5 (wmE m k 2 2 4 (wmE m k 2 2 3 (false))) = false := by unfold wmE; rw [if_neg (by omega), if_neg (by omega), if_neg (by omega)]
          rw [e8] at hG
          refine f_iln 3 rfl hL rfl ?_
          refine f_il 1 rfl hL rfl ?_
          refine f_if rfl (by decide) (fun _ => ?_) (fun c_9 => absurd (show (0 : Int) = (0 : Int) from (by decide)) c_9)
          refine f_s [fi (0), fi (b)] rfl rfl ?_
          refine b_ior rfl ?_
          refine f_istn [(2, fi (iO (b) (0))), (5, fi (3)), (4, fi (0)), (3, fi (2)), (0, .ref 55), (1, fi (k))] rfl (by decide) hL rfl (fun L221 hL221 => ?_)
          refine f_inc 3 [(3, fi (3)), (2, fi (iO (b) (0))), (5, fi (3)), (4, fi (0)), (0, .ref 55), (1, fi (k))] rfl (by decide) hL221 rfl rfl (fun L222 hL222 => ?_)
          refine f_goto rfl ?_
          have e9 : wm1 m k 2 2 (iS 1 2) b = iO (b) (0) := (if_pos pp).trans (by rw [← hG, if_neg (by decide)])
          rw [e9]
          exact hK3 hc _ _ hw hm (hL222.sel [0, 1, 4, 5] rfl)
        · have ci : ¬ ((m 55 21 : Int) ≤ (3 : Int)) := ci
          refine f_il 1 rfl hL rfl ?_
          refine f_if rfl (by decide) (fun _ => ?_) (fun c_9 => absurd (show (0 : Int) = (0 : Int) from (by decide)) c_9)
          refine f_s [fi (0)] rfl rfl ?_
          refine f_ist [(4, fi (0)), (5, fi (3)), (3, fi (2)), (2, fi (b)), (0, .ref 55), (1, fi (k))] rfl (by decide) hL rfl (fun L223 hL223 => ?_)
          refine f_inc 1 [(5, fi (4)), (4, fi (0)), (3, fi (2)), (2, fi (b)), (0, .ref 55), (1, fi (k))] rfl (by decide) hL223 rfl rfl (fun L224 hL224 => ?_)
          refine f_goto rfl ?_
          have e9 : wmE m k 2 2 3 false = false := (if_pos (by omega)).trans (by rfl)
          rw [e9] at hG
          exact hI4_0 hc _ hw hm hG (hL224.sel [0, 1, 2, 3, 4, 5] rfl)
      have hI3_1 : ∀ (hc : ev_H) (L : ev_L), y_in yGw hc → gi hc = m → wmE m k 2 2 5 (wmE m k 2 2 4 (wmE m k 2 2 3 (true))) = wmB m k 2 2 → f_L L [(5, fi (3)), (4, fi (1)), (3, fi (2)), (2, fi (b)), (0, .ref 55), (1, fi (k))] → x_W none (1, 0, 6, 1, 11, 3, 66, 0, 0, ev_t160) 54 L [] hc 0 0 (fun r' h' => r' = some (fi (wm1 m k 4 4 (iS 1 4) (wm1 m k 3 3 (iS 1 3) (wm1 m k 2 2 (iS 1 2) (b))))) ∧ y_in yGw h' ∧ gi h' = m) := fun hc L hw hm hG hL => by
        refine f_il 0 rfl hL rfl ?_
        refine f_aln 4 rfl hL rfl ?_
        refine m_gfi so55 (m 55 21) rfl hw hm rfl rfl ?_
        refine f_ic rfl (by decide) (by omega) (fun ci => ?_) (fun ci => ?_)
        · have ci : (m 55 21 : Int) ≤ (3 : Int) := ci
          have e8 : wmE m k 2 2 5 (wmE m k 2 2 4 (wmE m k 2 2 3 (true))) = true := by unfold wmE; rw [if_neg (by omega), if_neg (by omega), if_neg (by omega)]
          rw [e8] at hG
          refine f_iln 3 rfl hL rfl ?_
          refine f_il 1 rfl hL rfl ?_
          refine f_if rfl (by decide) (fun c_9 => absurd (show (1 : Int) = (0 : Int) from c_9) (by decide)) (fun _ => ?_)
          refine f_s [fi (1), fi (b)] rfl rfl ?_
          refine f_iln 2 rfl hL rfl ?_
          refine b_ishl rfl ?_
          refine f_goto rfl ?_
          refine b_ior rfl ?_
          refine f_istn [(2, fi (iO (b) (iS (1) (2)))), (5, fi (3)), (4, fi (1)), (3, fi (2)), (0, .ref 55), (1, fi (k))] rfl (by decide) hL rfl (fun L225 hL225 => ?_)
          refine f_inc 3 [(3, fi (3)), (2, fi (iO (b) (iS (1) (2)))), (5, fi (3)), (4, fi (1)), (0, .ref 55), (1, fi (k))] rfl (by decide) hL225 rfl rfl (fun L226 hL226 => ?_)
          refine f_goto rfl ?_
          have e9 : wm1 m k 2 2 (iS 1 2) b = iO (b) (iS (1) (2)) := (if_pos pp).trans (by rw [← hG, if_pos rfl])
          rw [e9]
          exact hK3 hc _ _ hw hm (hL226.sel [0, 1, 4, 5] rfl)
        · have ci : ¬ ((m 55 21 : Int) ≤ (3 : Int)) := ci
          refine f_il 1 rfl hL rfl ?_
          refine f_if rfl (by decide) (fun c_9 => absurd (show (1 : Int) = (0 : Int) from c_9) (by decide)) (fun _ => ?_)
          refine f_aln 4 rfl hL rfl ?_
          refine m_gfr so55 rfl hw rfl (by decide) ?_
          refine f_il 0 rfl hL rfl ?_
          refine m_ia sa67 (m 67 3) rfl hw hm (by omega) (by omega) (by decide) rfl ?_
          refine f_s [fi (5), fi (m 67 3)] rfl rfl ?_
          refine f_iln 5 rfl hL rfl ?_
          refine f_iadd rfl ?_
          refine f_ic rfl (hR 67 3) (by omega) (fun c2 => ?_) (fun c2 => ?_)
          · have c2 : ¬ (m 67 3 : Int) = (5 + k : Int) := c2
            refine f_s [fi (1)] rfl rfl ?_
            refine f_goto rfl ?_
            refine f_ist [(4, fi (1)), (5, fi (3)), (3, fi (2)), (2, fi (b)), (0, .ref 55), (1, fi (k))] rfl (by decide) hL rfl (fun L227 hL227 => ?_)
            refine f_inc 1 [(5, fi (4)), (4, fi (1)), (3, fi (2)), (2, fi (b)), (0, .ref 55), (1, fi (k))] rfl (by decide) hL227 rfl rfl (fun L228 hL228 => ?_)
            refine f_goto rfl ?_
            have e9 : wmE m k 2 2 3 true = true := (if_pos (by omega)).trans (by rw [decide_eq_true c2]; rfl)
            rw [e9] at hG
            exact hI4_1 hc _ hw hm hG (hL228.sel [0, 1, 2, 3, 4, 5] rfl)
          · have c2 : ¬ (¬ (m 67 3 : Int) = (5 + k : Int)) := c2
            refine f_aln 4 rfl hL rfl ?_
            refine f_s [fi (0), .ref 55] rfl rfl ?_
            refine f_iln 2 rfl hL rfl ?_
            refine f_aln 4 rfl hL rfl ?_
            refine m_gfr so55 rfl hw rfl (by decide) ?_
            refine f_il 0 rfl hL rfl ?_
            refine m_ia sa68 (m 68 3) rfl hw hm (by omega) (by omega) (by decide) rfl ?_
            refine m_k1 (t90_0 (p := 2) (h := m 68 3) (by decide) (by decide) (hR 68 3) (fv := m 58 2) rfl (hR 58 _) (uv := m 59 2) rfl (hR 59 _)) hw hm rfl rfl rfl (m_ar so55 hw rfl) rfl (fun hc33 hw33 hm33 => ?_)
            have c2 : m 67 3 = 5 + k := by omega
            refine f_if rfl (bI_r _) (fun c3 => ?_) (fun c3 => ?_)
            · have c3 : (bI (decide (¬ iA (iR (m 61 16) (2)) (1) = 1 ∧ m 58 2 ≤ m 68 3 ∧ m 68 3 ≤ m 59 2)) : Int) = (0 : Int) := c3
              have c3 : ¬ (¬ iA (iR (m 61 16) (2)) (1) = 1 ∧ m 58 2 ≤ m 68 3 ∧ m 68 3 ≤ m 59 2) := bI_f c3
              refine f_s [fi (0)] rfl rfl ?_
              refine f_ist [(4, fi (0)), (5, fi (3)), (3, fi (2)), (2, fi (b)), (0, .ref 55), (1, fi (k))] rfl (by decide) hL rfl (fun L229 hL229 => ?_)
              refine f_inc 1 [(5, fi (4)), (4, fi (0)), (3, fi (2)), (2, fi (b)), (0, .ref 55), (1, fi (k))] rfl (by decide) hL229 rfl rfl (fun L230 hL230 => ?_)
              refine f_goto rfl ?_
              have e9 : wmE m k 2 2 3 true = false := (if_pos (by omega)).trans (by rw [decide_eq_false (fun z => z c2), decide_eq_false c3]; rfl)
              rw [e9] at hG
              exact hI4_0 hc33 _ hw33 hm33 hG (hL230.sel [0, 1, 2, 3, 4, 5] rfl)
            · have c3 : ¬ ((bI (decide (¬ iA (iR (m 61 16) (2)) (1) = 1 ∧ m 58 2 ≤ m 68 3 ∧ m 68 3 ≤ m 59 2)) : Int) = (0 : Int)) := c3
              have c3 : ¬ iA (iR (m 61 16) (2)) (1) = 1 ∧ m 58 2 ≤ m 68 3 ∧ m 68 3 ≤ m 59 2 := bI_t c3
              refine f_aln 4 rfl hL rfl ?_
              refine f_iln 2 rfl hL rfl ?_
              refine f_aln 4 rfl hL rfl ?_
              refine m_gfr so55 rfl hw33 rfl (by decide) ?_
              refine f_il 0 rfl hL rfl ?_
              refine m_ia sa68 (m 68 3) rfl hw33 hm33 (by omega) (by omega) (by decide) rfl ?_
              refine m_k1 (show h_M 159 [.ref 55, fi (2), fi (m 68 3)] m (some (fi (bI (sn m 2 (m 68 3))))) m from se_sn m 2 (m 68 3) ▸ t159 ht (by decide) (hR 68 3)) hw33 hm33 rfl rfl rfl (m_ar so55 hw33 rfl) rfl (fun hc34 hw34 hm34 => ?_)
              refine f_if rfl (bI_r _) (fun c4 => ?_) (fun c4 => ?_)
              · have c4 : ¬ (bI (sn m 2 (m 68 3)) : Int) = (0 : Int) := c4
                refine f_s [fi (0)] rfl rfl ?_
                refine f_ist [(4, fi (0)), (5, fi (3)), (3, fi (2)), (2, fi (b)), (0, .ref 55), (1, fi (k))] rfl (by decide) hL rfl (fun L231 hL231 => ?_)
                refine f_inc 1 [(5, fi (4)), (4, fi (0)), (3, fi (2)), (2, fi (b)), (0, .ref 55), (1, fi (k))] rfl (by decide) hL231 rfl rfl (fun L232 hL232 => ?_)
                refine f_goto rfl ?_
                have e9 : wmE m k 2 2 3 true = false := (if_pos (by omega)).trans (by rw [decide_eq_false (fun z => z c2), decide_eq_true c3, bI1 c4]; rfl)
                rw [e9] at hG
                exact hI4_0 hc34 _ hw34 hm34 hG (hL232.sel [0, 1, 2, 3, 4, 5] rfl)
              · have c4 : ¬ (¬ (bI (sn m 2 (m 68 3)) : Int) = (0 : Int)) := c4
                refine f_s [fi (1)] rfl rfl ?_
                refine f_goto rfl ?_
                refine f_ist [(4, fi (1)), (5, fi (3)), (3, fi (2)), (2, fi (b)), (0, .ref 55), (1, fi (k))] rfl (by decide) hL rfl (fun L233 hL233 => ?_)
                refine f_inc 1 [(5, fi (4)), (4, fi (1)), (3, fi (2)), (2, fi (b)), (0, .ref 55), (1, fi (k))] rfl (by decide) hL233 rfl rfl (fun L234 hL234 => ?_)
                refine f_goto rfl ?_
                have e9 : wmE m k 2 2 3 true = true := (if_pos (by omega)).trans (by rw [decide_eq_false (fun z => z c2), decide_eq_true c3, bI0 (Classical.byContradiction c4)]; rfl)
                rw [e9] at hG
                exact hI4_1 hc34 _ hw34 hm34 hG (hL234.sel [0, 1, 2, 3, 4, 5] rfl)
      have hI2_0 : ∀ (hc : ev_H) (L : ev_L), y_in yGw hc → gi hc = m → wmE m k 2 2 5 (wmE m k 2 2 4 (wmE m k 2 2 3 (wmE m k 2 2 2 (false)))) = wmB m k 2 2 → f_L L [(5, fi (2)), (4, fi (0)), (3, fi (2)), (2, fi (b)), (0, .ref 55), (1, fi (k))] → x_W none (1, 0, 6, 1, 11, 3, 66, 0, 0, ev_t160) 54 L [] hc 0 0 (fun r' h' => r' = some (fi (wm1 m k 4 4 (iS 1 4) (wm1 m k 3 3 (iS 1 3) (wm1 m k 2 2 (iS 1 2) (b))))) ∧ y_in yGw h' ∧ gi h' = m) := fun hc L hw hm hG hL => by
        refine f_il 0 rfl hL rfl ?_
        refine f_aln 4 rfl hL rfl ?_
        refine m_gfi so55 (m 55 21) rfl hw hm rfl rfl ?_
        refine f_ic rfl (by decide) (by omega) (fun ci => ?_) (fun ci => ?_)
        · have ci : (m 55 21 : Int) ≤ (2 : Int) := ci
          have e8 : wmE m k 2 2 5 (wmE m k 2 2 4 (wmE m k 2 2 3 (wmE m k 2 2 2 (false)))) = false := by unfold wmE; rw [if_neg (by omega), if_neg (by omega), if_neg (by omega), if_neg (by omega)]
          rw [e8] at hG
          refine f_iln 3 rfl hL rfl ?_
          refine f_il 1 rfl hL rfl ?_
          refine f_if rfl (by decide) (fun _ => ?_) (fun c_9 => absurd (show (0 : Int) = (0 : Int) from (by decide)) c_9)
          refine f_s [fi (0), fi (b)] rfl rfl ?_
          refine b_ior rfl ?_
          refine f_istn [(2, fi (iO (b) (0))), (5, fi (2)), (4, fi (0)), (3, fi (2)), (0, .ref 55), (1, fi (k))] rfl (by decide) hL rfl (fun L235 hL235 => ?_)
          refine f_inc 3 [(3, fi (3)), (2, fi (iO (b) (0))), (5, fi (2)), (4, fi (0)), (0, .ref 55), (1, fi (k))] rfl (by decide) hL235 rfl rfl (fun L236 hL236 => ?_)
          refine f_goto rfl ?_
          have e9 : wm1 m k 2 2 (iS 1 2) b = iO (b) (0) := (if_pos pp).trans (by rw [← hG, if_neg (by decide)])
          rw [e9]
          exact hK3 hc _ _ hw hm (hL236.sel [0, 1, 4, 5] rfl)
        · have ci : ¬ ((m 55 21 : Int) ≤ (2 : Int)) := ci
          refine f_il 1 rfl hL rfl ?_
          refine f_if rfl (by decide) (fun _ => ?_) (fun c_9 => absurd (show (0 : Int) = (0 : Int) from (by decide)) c_9)
          refine f_s [fi (0)] rfl rfl ?_
          refine f_ist [(4, fi (0)), (5, fi (2)), (3, fi (2)), (2, fi (b)), (0, .ref 55), (1, fi (k))] rfl (by decide) hL rfl (fun L237 hL237 => ?_)
          refine f_inc 1 [(5, fi (3)), (4, fi (0)), (3, fi (2)), (2, fi (b)), (0, .ref 55), (1, fi (k))] rfl (by decide) hL237 rfl rfl (fun L238 hL238 => ?_)
          refine f_goto rfl ?_
          have e9 : wmE m k 2 2 2 false = false := (if_pos (by omega)).trans (by rfl)
          rw [e9] at hG
          exact hI3_0 hc _ hw hm hG (hL238.sel [0, 1, 2, 3, 4, 5] rfl)
      have hI2_1 : ∀ (hc : ev_H) (L : ev_L), y_in yGw hc → gi hc = m → wmE m k 2 2 5 (wmE m k 2 2 4 (wmE m k 2 2 3 (wmE m k 2 2 2 (true)))) = wmB m k 2 2 → f_L L [(5, fi (2)), (4, fi (1)), (3, fi (2)), (2, fi (b)), (0, .ref 55), (1, fi (k))] → x_W none (1, 0, 6, 1, 11, 3, 66, 0, 0, ev_t160) 54 L [] hc 0 0 (fun r' h' => r' = some (fi (wm1 m k 4 4 (iS 1 4) (wm1 m k 3 3 (iS 1 3) (wm1 m k 2 2 (iS 1 2) (b))))) ∧ y_in yGw h' ∧ gi h' = m) := fun hc L hw hm hG hL => by
        refine f_il 0 rfl hL rfl ?_
        refine f_aln 4 rfl hL rfl ?_
        refine m_gfi so55 (m 55 21) rfl hw hm rfl rfl ?_
        refine f_ic rfl (by decide) (by omega) (fun ci => ?_) (fun ci => ?_)
        · have ci : (m 55 21 : Int) ≤ (2 : Int) := ci
          have e8 : wmE m k 2 2 5 (wmE m k 2 2 4 (wmE m k 2 2 3 (wmE m k 2 2 2 (true)))) = true := by unfold wmE; rw [if_neg (by omega), if_neg (by omega), if_neg (by omega), if_neg (by omega)]
          rw [e8] at hG
          refine f_iln 3 rfl hL rfl ?_
          refine f_il 1 rfl hL rfl ?_
          refine f_if rfl (by decide) (fun c_9 => absurd (show (1 : Int) = (0 : Int) from c_9) (by decide)) (fun _ => ?_)
          refine f_s [fi (1), fi (b)] rfl rfl ?_
          refine f_iln 2 rfl hL rfl ?_
          refine b_ishl rfl ?_
          refine f_goto rfl ?_
          refine b_ior rfl ?_
          refine f_istn [(2, fi (iO (b) (iS (1) (2)))), (5, fi (2)), (4, fi (1)), (3, fi (2)), (0, .ref 55), (1, fi (k))] rfl (by decide) hL rfl (fun L239 hL239 => ?_)
          refine f_inc 3 [(3, fi (3)), (2, fi (iO (b) (iS (1) (2)))), (5, fi (2)), (4, fi (1)), (0, .ref 55), (1, fi (k))] rfl (by decide) hL239 rfl rfl (fun L240 hL240 => ?_)
          refine f_goto rfl ?_
          have e9 : wm1 m k 2 2 (iS 1 2) b = iO (b) (iS (1) (2)) := (if_pos pp).trans (by rw [← hG, if_pos rfl])
          rw [e9]
          exact hK3 hc _ _ hw hm (hL240.sel [0, 1, 4, 5] rfl)
        · have ci : ¬ ((m 55 21 : Int) ≤ (2 : Int)) := ci
          refine f_il 1 rfl hL rfl ?_
          refine f_if rfl (by decide) (fun c_9 => absurd (show (1 : Int) = (0 : Int) from c_9) (by decide)) (fun _ => ?_)
          refine f_aln 4 rfl hL rfl ?_
          refine m_gfr so55 rfl hw rfl (by decide) ?_
          refine f_il 0 rfl hL rfl ?_
          refine m_ia sa67 (m 67 2) rfl hw hm (by omega) (by omega) (by decide) rfl ?_
          refine f_s [fi (5), fi (m 67 2)] rfl rfl ?_
          refine f_iln 5 rfl hL rfl ?_
          refine f_iadd rfl ?_
          refine f_ic rfl (hR 67 2) (by omega) (fun c2 => ?_) (fun c2 => ?_)
          · have c2 : ¬ (m 67 2 : Int) = (5 + k : Int) := c2
            refine f_s [fi (1)] rfl rfl ?_
            refine f_goto rfl ?_
            refine f_ist [(4, fi (1)), (5, fi (2)), (3, fi (2)), (2, fi (b)), (0, .ref 55), (1, fi (k))] rfl (by decide) hL rfl (fun L241 hL241 => ?_)
            refine f_inc 1 [(5, fi (3)), (4, fi (1)), (3, fi (2)), (2, fi (b)), (0, .ref 55), (1, fi (k))] rfl (by decide) hL241 rfl rfl (fun L242 hL242 => ?_)
            refine f_goto rfl ?_
            have e9 : wmE m k 2 2 2 true = true := (if_pos (by omega)).trans (by rw [decide_eq_true c2]; rfl)
            rw [e9] at hG
            exact hI3_1 hc _ hw hm hG (hL242.sel [0, 1, 2, 3, 4, 5] rfl)
          · have c2 : ¬ (¬ (m 67 2 : Int) = (5 + k : Int)) := c2
            refine f_aln 4 rfl hL rfl ?_
            refine f_s [fi (0), .ref 55] rfl rfl ?_
            refine f_iln 2 rfl hL rfl ?_
            refine f_aln 4 rfl hL rfl ?_
            refine m_gfr so55 rfl hw rfl (by decide) ?_
            refine f_il 0 rfl hL rfl ?_
            refine m_ia sa68 (m 68 2) rfl hw hm (by omega) (by omega) (by decide) rfl ?_
            refine m_k1 (t90_0 (p := 2) (h := m 68 2) (by decide) (by decide) (hR 68 2) (fv := m 58 2) rfl (hR 58 _) (uv := m 59 2) rfl (hR 59 _)) hw hm rfl rfl rfl (m_ar so55 hw rfl) rfl (fun hc35 hw35 hm35 => ?_)
            have c2 : m 67 2 = 5 + k := by omega
            refine f_if rfl (bI_r _) (fun c3 => ?_) (fun c3 => ?_)
            · have c3 : (bI (decide (¬ iA (iR (m 61 16) (2)) (1) = 1 ∧ m 58 2 ≤ m 68 2 ∧ m 68 2 ≤ m 59 2)) : Int) = (0 : Int) := c3
              have c3 : ¬ (¬ iA (iR (m 61 16) (2)) (1) = 1 ∧ m 58 2 ≤ m 68 2 ∧ m 68 2 ≤ m 59 2) := bI_f c3
              refine f_s [fi (0)] rfl rfl ?_
              refine f_ist [(4, fi (0)), (5, fi (2)), (3, fi (2)), (2, fi (b)), (0, .ref 55), (1, fi (k))] rfl (by decide) hL rfl (fun L243 hL243 => ?_)
              refine f_inc 1 [(5, fi (3)), (4, fi (0)), (3, fi (2)), (2, fi (b)), (0, .ref 55), (1, fi (k))] rfl (by decide) hL243 rfl rfl (fun L244 hL244 => ?_)
              refine f_goto rfl ?_
              have e9 : wmE m k 2 2 2 true = false := (if_pos (by omega)).trans (by rw [decide_eq_false (fun z => z c2), decide_eq_false c3]; rfl)
              rw [e9] at hG
              exact hI3_0 hc35 _ hw35 hm35 hG (hL244.sel [0, 1, 2, 3, 4, 5] rfl)
            · have c3 : ¬ ((bI (decide (¬ iA (iR (m 61 16) (2)) (1) = 1 ∧ m 58 2 ≤ m 68 2 ∧ m 68 2 ≤ m 59 2)) : Int) = (0 : Int)) := c3
              have c3 : ¬ iA (iR (m 61 16) (2)) (1) = 1 ∧ m 58 2 ≤ m 68 2 ∧ m 68 2 ≤ m 59 2 := bI_t c3
              refine f_aln 4 rfl hL rfl ?_
              refine f_iln 2 rfl hL rfl ?_
              refine f_aln 4 rfl hL rfl ?_
              refine m_gfr so55 rfl hw35 rfl (by decide) ?_
              refine f_il 0 rfl hL rfl ?_
              refine m_ia sa68 (m 68 2) rfl hw35 hm35 (by omega) (by omega) (by decide) rfl ?_
              refine m_k1 (show h_M 159 [.ref 55, fi (2), fi (m 68 2)] m (some (fi (bI (sn m 2 (m 68 2))))) m from se_sn m 2 (m 68 2) ▸ t159 ht (by decide) (hR 68 2)) hw35 hm35 rfl rfl rfl (m_ar so55 hw35 rfl) rfl (fun hc36 hw36 hm36 => ?_)
              refine f_if rfl (bI_r _) (fun c4 => ?_) (fun c4 => ?_)
              · have c4 : ¬ (bI (sn m 2 (m 68 2)) : Int) = (0 : Int) := c4
                refine f_s [fi (0)] rfl rfl ?_
                refine f_ist [(4, fi (0)), (5, fi (2)), (3, fi (2)), (2, fi (b)), (0, .ref 55), (1, fi (k))] rfl (by decide) hL rfl (fun L245 hL245 => ?_)
                refine f_inc 1 [(5, fi (3)), (4, fi (0)), (3, fi (2)), (2, fi (b)), (0, .ref 55), (1, fi (k))] rfl (by decide) hL245 rfl rfl (fun L246 hL246 => ?_)
                refine f_goto rfl ?_
                have e9 : wmE m k 2 2 2 true = false := (if_pos (by omega)).trans (by rw [decide_eq_false (fun z => z c2), decide_eq_true c3, bI1 c4]; rfl)
                rw [e9] at hG
                exact hI3_0 hc36 _ hw36 hm36 hG (hL246.sel [0, 1, 2, 3, 4, 5] rfl)
              · have c4 : ¬ (¬ (bI (sn m 2 (m 68 2)) : Int) = (0 : Int)) := c4
                refine f_s [fi (1)] rfl rfl ?_
                refine f_goto rfl ?_
                refine f_ist [(4, fi (1)), (5, fi (2)), (3, fi (2)), (2, fi (b)), (0, .ref 55), (1, fi (k))] rfl (by decide) hL rfl (fun L247 hL247 => ?_)
                refine f_inc 1 [(5, fi (3)), (4, fi (1)), (3, fi (2)), (2, fi (b)), (0, .ref 55), (1, fi (k))] rfl (by decide) hL247 rfl rfl (fun L248 hL248 => ?_)
                refine f_goto rfl ?_
                have e9 : wmE m k 2 2 2 true = true := (if_pos (by omega)).trans (by rw [decide_eq_false (fun z => z c2), decide_eq_true c3, bI0 (Classical.byContradiction c4)]; rfl)
                rw [e9] at hG
                exact hI3_1 hc36 _ hw36 hm36 hG (hL248.sel [0, 1, 2, 3, 4, 5] rfl)
      have hI1_0 : ∀ (hc : ev_H) (L : ev_L), y_in yGw hc → gi hc = m → wmE m k 2 2 5 (wmE m k 2 2 4 (wmE m k 2 2 3 (wmE m k 2 2 2 (wmE m k 2 2 1 (false))))) = wmB m k 2 2 → f_L L [(5, fi (1)), (4, fi (0)), (3, fi (2)), (2, fi (b)), (0, .ref 55), (1, fi (k))] → x_W none (1, 0, 6, 1, 11, 3, 66, 0, 0, ev_t160) 54 L [] hc 0 0 (fun r' h' => r' = some (fi (wm1 m k 4 4 (iS 1 4) (wm1 m k 3 3 (iS 1 3) (wm1 m k 2 2 (iS 1 2) (b))))) ∧ y_in yGw h' ∧ gi h' = m) := fun hc L hw hm hG hL => by
        refine f_il 0 rfl hL rfl ?_
        refine f_aln 4 rfl hL rfl ?_
        refine m_gfi so55 (m 55 21) rfl hw hm rfl rfl ?_
        refine f_ic rfl (by decide) (by omega) (fun ci => ?_) (fun ci => ?_)
        · have ci : (m 55 21 : Int) ≤ (1 : Int) := ci
          have e8 : wmE m k 2 2 5 (wmE m k 2 2 4 (wmE m k 2 2 3 (wmE m k 2 2 2 (wmE m k 2 2 1 (false))))) = false := by unfold wmE; rw [if_neg (by omega), if_neg (by omega), if_neg (by omega), if_neg (by omega), if_neg (by omega)]
          rw [e8] at hG
          refine f_iln 3 rfl hL rfl ?_
          refine f_il 1 rfl hL rfl ?_
          refine f_if rfl (by decide) (fun _ => ?_) (fun c_9 => absurd (show (0 : Int) = (0 : Int) from (by decide)) c_9)
          refine f_s [fi (0), fi (b)] rfl rfl ?_
          refine b_ior rfl ?_
          refine f_istn [(2, fi (iO (b) (0))), (5, fi (1)), (4, fi (0)), (3, fi (2)), (0, .ref 55), (1, fi (k))] rfl (by decide) hL rfl (fun L249 hL249 => ?_)
          refine f_inc 3 [(3, fi (3)), (2, fi (iO (b) (0))), (5, fi (1)), (4, fi (0)), (0, .ref 55), (1, fi (k))] rfl (by decide) hL249 rfl rfl (fun L250 hL250 => ?_)
          refine f_goto rfl ?_
          have e9 : wm1 m k 2 2 (iS 1 2) b = iO (b) (0) := (if_pos pp).trans (by rw [← hG, if_neg (by decide)])
          rw [e9]
          exact hK3 hc _ _ hw hm (hL250.sel [0, 1, 4, 5] rfl)
        · have ci : ¬ ((m 55 21 : Int) ≤ (1 : Int)) := ci
          refine f_il 1 rfl hL rfl ?_
          refine f_if rfl (by decide) (fun _ => ?_) (fun c_9 => absurd (show (0 : Int) = (0 : Int) from (by decide)) c_9)
          refine f_s [fi (0)] rfl rfl ?_
          refine f_ist [(4, fi (0)), (5, fi (1)), (3, fi (2)), (2, fi (b)), (0, .ref 55), (1, fi (k))] rfl (by decide) hL rfl (fun L251 hL251 => ?_)
          refine f_inc 1 [(5, fi (2)), (4, fi (0)), (3, fi (2)), (2, fi (b)), (0, .ref 55), (1, fi (k))] rfl (by decide) hL251 rfl rfl (fun L252 hL252 => ?_)
          refine f_goto rfl ?_
          have e9 : wmE m k 2 2 1 false = false := (if_pos (by omega)).trans (by rfl)
          rw [e9] at hG
          exact hI2_0 hc _ hw hm hG (hL252.sel [0, 1, 2, 3, 4, 5] rfl)
      have hI1_1 : ∀ (hc : ev_H) (L : ev_L), y_in yGw hc → gi hc = m → wmE m k 2 2 5 (wmE m k 2 2 4 (wmE m k 2 2 3 (wmE m k 2 2 2 (wmE m k 2 2 1 (true))))) = wmB m k 2 2 → f_L L [(5, fi (1)), (4, fi (1)), (3, fi (2)), (2, fi (b)), (0, .ref 55), (1, fi (k))] → x_W none (1, 0, 6, 1, 11, 3, 66, 0, 0, ev_t160) 54 L [] hc 0 0 (fun r' h' => r' = some (fi (wm1 m k 4 4 (iS 1 4) (wm1 m k 3 3 (iS 1 3) (wm1 m k 2 2 (iS 1 2) (b))))) ∧ y_in yGw h' ∧ gi h' = m) := fun hc L hw hm hG hL => by
        refine f_il 0 rfl hL rfl ?_
        refine f_aln 4 rfl hL rfl ?_
        refine m_gfi so55 (m 55 21) rfl hw hm rfl rfl ?_
        refine f_ic rfl (by decide) (by omega) (fun ci => ?_) (fun ci => ?_)
        · have ci : (m 55 21 : Int) ≤ (1 : Int) := ci
          have e8 : wmE m k 2 2 5 (wmE m k 2 2 4 (wmE m k 2 2 3 (wmE m k 2 2 2 (wmE m k 2 2 1 (true))))) = true := by unfold wmE; rw [if_neg (by omega), if_neg (by omega), if_neg (by omega), if_neg (by omega), if_neg (by omega)]
          rw [e8] at hG
          refine f_iln 3 rfl hL rfl ?_
          refine f_il 1 rfl hL rfl ?_
          refine f_if rfl (by decide) (fun c_9 => absurd (show (1 : Int) = (0 : Int) from c_9) (by decide)) (fun _ => ?_)
          refine f_s [fi (1), fi (b)] rfl rfl ?_
          refine f_iln 2 rfl hL rfl ?_
          refine b_ishl rfl ?_
          refine f_goto rfl ?_
          refine b_ior rfl ?_
          refine f_istn [(2, fi (iO (b) (iS (1) (2)))), (5, fi (1)), (4, fi (1)), (3, fi (2)), (0, .ref 55), (1, fi (k))] rfl (by decide) hL rfl (fun L253 hL253 => ?_)
          refine f_inc 3 [(3, fi (3)), (2, fi (iO (b) (iS (1) (2)))), (5, fi (1)), (4, fi (1)), (0, .ref 55), (1, fi (k))] rfl (by decide) hL253 rfl rfl (fun L254 hL254 => ?_)
          refine f_goto rfl ?_
          have e9 : wm1 m k 2 2 (iS 1 2) b = iO (b) (iS (1) (2)) := (if_pos pp).trans (by rw [← hG, if_pos rfl])
          rw [e9]
          exact hK3 hc _ _ hw hm (hL254.sel [0, 1, 4, 5] rfl)
        · have ci : ¬ ((m 55 21 : Int) ≤ (1 : Int)) := ci
          refine f_il 1 rfl hL rfl ?_
          refine f_if rfl (by decide) (fun c_9 => absurd (show (1 : Int) = (0 : Int) from c_9) (by decide)) (fun _ => ?_)
          refine f_aln 4 rfl hL rfl ?_
          refine m_gfr so55 rfl hw rfl (by decide) ?_
          refine f_il 0 rfl hL rfl ?_
          refine m_ia sa67 (m 67 1) rfl hw hm (by omega) (by omega) (by decide) rfl ?_
          refine f_s [fi (5), fi (m 67 1)] rfl rfl ?_
          refine f_iln 5 rfl hL rfl ?_
          refine f_iadd rfl ?_
          refine f_ic rfl (hR 67 1) (by omega) (fun c2 => ?_) (fun c2 => ?_)
          · have c2 : ¬ (m 67 1 : Int) = (5 + k : Int) := c2
            refine f_s [fi (1)] rfl rfl ?_
            refine f_goto rfl ?_
            refine f_ist [(4, fi (1)), (5, fi (1)), (3, fi (2)), (2, fi (b)), (0, .ref 55), (1, fi (k))] rfl (by decide) hL rfl (fun L255 hL255 => ?_)
            refine f_inc 1 [(5, fi (2)), (4, fi (1)), (3, fi (2)), (2, fi (b)), (0, .ref 55), (1, fi (k))] rfl (by decide) hL255 rfl rfl (fun L256 hL256 => ?_)
            refine f_goto rfl ?_
            have e9 : wmE m k 2 2 1 true = true := (if_pos (by omega)).trans (by rw [decide_eq_true c2]; rfl)
            rw [e9] at hG
            exact hI2_1 hc _ hw hm hG (hL256.sel [0, 1, 2, 3, 4, 5] rfl)
          · have c2 : ¬ (¬ (m 67 1 : Int) = (5 + k : Int)) := c2
            refine f_aln 4 rfl hL rfl ?_
            refine f_s [fi (0), .ref 55] rfl rfl ?_
            refine f_iln 2 rfl hL rfl ?_
            refine f_aln 4 rfl hL rfl ?_
            refine m_gfr so55 rfl hw rfl (by decide) ?_
            refine f_il 0 rfl hL rfl ?_
            refine m_ia sa68 (m 68 1) rfl hw hm (by omega) (by omega) (by decide) rfl ?_
            refine m_k1 (t90_0 (p := 2) (h := m 68 1) (by decide) (by decide) (hR 68 1) (fv := m 58 2) rfl (hR 58 _) (uv := m 59 2) rfl (hR 59 _)) hw hm rfl rfl rfl (m_ar so55 hw rfl) rfl (fun hc37 hw37 hm37 => ?_)
            have c2 : m 67 1 = 5 + k := by omega
            refine f_if rfl (bI_r _) (fun c3 => ?_) (fun c3 => ?_)
            · have c3 : (bI (decide (¬ iA (iR (m 61 16) (2)) (1) = 1 ∧ m 58 2 ≤ m 68 1 ∧ m 68 1 ≤ m 59 2)) : Int) = (0 : Int) := c3
              have c3 : ¬ (¬ iA (iR (m 61 16) (2)) (1) = 1 ∧ m 58 2 ≤ m 68 1 ∧ m 68 1 ≤ m 59 2) := bI_f c3
              refine f_s [fi (0)] rfl rfl ?_
              refine f_ist [(4, fi (0)), (5, fi (1)), (3, fi (2)), (2, fi (b)), (0, .ref 55), (1, fi (k))] rfl (by decide) hL rfl (fun L257 hL257 => ?_)
              refine f_inc 1 [(5, fi (2)), (4, fi (0)), (3, fi (2)), (2, fi (b)), (0, .ref 55), (1, fi (k))] rfl (by decide) hL257 rfl rfl (fun L258 hL258 => ?_)
              refine f_goto rfl ?_
              have e9 : wmE m k 2 2 1 true = false := (if_pos (by omega)).trans (by rw [decide_eq_false (fun z => z c2), decide_eq_false c3]; rfl)
              rw [e9] at hG
              exact hI2_0 hc37 _ hw37 hm37 hG (hL258.sel [0, 1, 2, 3, 4, 5] rfl)
            · have c3 : ¬ ((bI (decide (¬ iA (iR (m 61 16) (2)) (1) = 1 ∧ m 58 2 ≤ m 68 1 ∧ m 68 1 ≤ m 59 2)) : Int) = (0 : Int)) := c3
              have c3 : ¬ iA (iR (m 61 16) (2)) (1) = 1 ∧ m 58 2 ≤ m 68 1 ∧ m 68 1 ≤ m 59 2 := bI_t c3
              refine f_aln 4 rfl hL rfl ?_
              refine f_iln 2 rfl hL rfl ?_
              refine f_aln 4 rfl hL rfl ?_
              refine m_gfr so55 rfl hw37 rfl (by decide) ?_
              refine f_il 0 rfl hL rfl ?_
              refine m_ia sa68 (m 68 1) rfl hw37 hm37 (by omega) (by omega) (by decide) rfl ?_
              refine m_k1 (show h_M 159 [.ref 55, fi (2), fi (m 68 1)] m (some (fi (bI (sn m 2 (m 68 1))))) m from se_sn m 2 (m 68 1) ▸ t159 ht (by decide) (hR 68 1)) hw37 hm37 rfl rfl rfl (m_ar so55 hw37 rfl) rfl (fun hc38 hw38 hm38 => ?_)
              refine f_if rfl (bI_r _) (fun c4 => ?_) (fun c4 => ?_)
              · have c4 : ¬ (bI (sn m 2 (m 68 1)) : Int) = (0 : Int) := c4
                refine f_s [fi (0)] rfl rfl ?_
                refine f_ist [(4, fi (0)), (5, fi (1)), (3, fi (2)), (2, fi (b)), (0, .ref 55), (1, fi (k))] rfl (by decide) hL rfl (fun L259 hL259 => ?_)
                refine f_inc 1 [(5, fi (2)), (4, fi (0)), (3, fi (2)), (2, fi (b)), (0, .ref 55), (1, fi (k))] rfl (by decide) hL259 rfl rfl (fun L260 hL260 => ?_)
                refine f_goto rfl ?_
                have e9 : wmE m k 2 2 1 true = false := (if_pos (by omega)).trans (by rw [decide_eq_false (fun z => z c2), decide_eq_true c3, bI1 c4]; rfl)
                rw [e9] at hG
                exact hI2_0 hc38 _ hw38 hm38 hG (hL260.sel [0, 1, 2, 3, 4, 5] rfl)
              · have c4 : ¬ (¬ (bI (sn m 2 (m 68 1)) : Int) = (0 : Int)) := c4
                refine f_s [fi (1)] rfl rfl ?_
                refine f_goto rfl ?_
                refine f_ist [(4, fi (1)), (5, fi (1)), (3, fi (2)), (2, fi (b)), (0, .ref 55), (1, fi (k))] rfl (by decide) hL rfl (fun L261 hL261 => ?_)
                refine f_inc 1 [(5, fi (2)), (4, fi (1)), (3, fi (2)), (2, fi (b)), (0, .ref 55), (1, fi (k))] rfl (by decide) hL261 rfl rfl (fun L262 hL262 => ?_)
                refine f_goto rfl ?_
                have e9 : wmE m k 2 2 1 true = true := (if_pos (by omega)).trans (by rw [decide_eq_false (fun z => z c2), decide_eq_true c3, bI0 (Classical.byContradiction c4)]; rfl)
                rw [e9] at hG
                exact hI2_1 hc38 _ hw38 hm38 hG (hL262.sel [0, 1, 2, 3, 4, 5] rfl)
      have hI0_0 : ∀ (hc : ev_H) (L : ev_L), y_in yGw hc → gi hc = m → wmE m k 2 2 5 (wmE m k 2 2 4 (wmE m k 2 2 3 (wmE m k 2 2 2 (wmE m k 2 2 1 (wmE m k 2 2 0 (false)))))) = wmB m k 2 2 → f_L L [(5, fi (0)), (4, fi (0)), (3, fi (2)), (2, fi (b)), (0, .ref 55), (1, fi (k))] → x_W none (1, 0, 6, 1, 11, 3, 66, 0, 0, ev_t160) 54 L [] hc 0 0 (fun r' h' => r' = some (fi (wm1 m k 4 4 (iS 1 4) (wm1 m k 3 3 (iS 1 3) (wm1 m k 2 2 (iS 1 2) (b))))) ∧ y_in yGw h' ∧ gi h' = m) := fun hc L hw hm hG hL => by
        refine f_il 0 rfl hL rfl ?_
        refine f_aln 4 rfl hL rfl ?_
        refine m_gfi so55 (m 55 21) rfl hw hm rfl rfl ?_
        refine f_ic rfl (by decide) (by omega) (fun ci => ?_) (fun ci => ?_)
        · have ci : (m 55 21 : Int) ≤ (0 : Int) := ci
          have e8 : wmE m k 2 2 5 (wmE m k 2 2 4 (wmE m k 2 2 3 (wmE m k 2 2 2 (wmE m k 2 2 1 (wmE m k 2 2 0 (false)))))) = false := by unfold wmE; rw [if_neg (by omega), if_neg (by omega), if_neg (by omega), if_neg (by omega), if_neg (by omega), if_neg (by omega)]
          rw [e8] at hG
          refine f_iln 3 rfl hL rfl ?_
          refine f_il 1 rfl hL rfl ?_
          refine f_if rfl (by decide) (fun _ => ?_) (fun c_9 => absurd (show (0 : Int) = (0 : Int) from (by decide)) c_9)
          refine f_s [fi (0), fi (b)] rfl rfl ?_
          refine b_ior rfl ?_
          refine f_istn [(2, fi (iO (b) (0))), (5, fi (0)), (4, fi (0)), (3, fi (2)), (0, .ref 55), (1, fi (k))] rfl (by decide) hL rfl (fun L263 hL263 => ?_)
          refine f_inc 3 [(3, fi (3)), (2, fi (iO (b) (0))), (5, fi (0)), (4, fi (0)), (0, .ref 55), (1, fi (k))] rfl (by decide) hL263 rfl rfl (fun L264 hL264 => ?_)
          refine f_goto rfl ?_
          have e9 : wm1 m k 2 2 (iS 1 2) b = iO (b) (0) := (if_pos pp).trans (by rw [← hG, if_neg (by decide)])
          rw [e9]
          exact hK3 hc _ _ hw hm (hL264.sel [0, 1, 4, 5] rfl)
        · have ci : ¬ ((m 55 21 : Int) ≤ (0 : Int)) := ci
          refine f_il 1 rfl hL rfl ?_
          refine f_if rfl (by decide) (fun _ => ?_) (fun c_9 => absurd (show (0 : Int) = (0 : Int) from (by decide)) c_9)
          refine f_s [fi (0)] rfl rfl ?_
          refine f_ist [(4, fi (0)), (5, fi (0)), (3, fi (2)), (2, fi (b)), (0, .ref 55), (1, fi (k))] rfl (by decide) hL rfl (fun L265 hL265 => ?_)
          refine f_inc 1 [(5, fi (1)), (4, fi (0)), (3, fi (2)), (2, fi (b)), (0, .ref 55), (1, fi (k))] rfl (by decide) hL265 rfl rfl (fun L266 hL266 => ?_)
          refine f_goto rfl ?_
          have e9 : wmE m k 2 2 0 false = false := (if_pos (by omega)).trans (by rfl)
          rw [e9] at hG
          exact hI1_0 hc _ hw hm hG (hL266.sel [0, 1, 2, 3, 4, 5] rfl)
      have hI0_1 : ∀ (hc : ev_H) (L : ev_L), y_in yGw hc → gi hc = m → wmE m k 2 2 5 (wmE m k 2 2 4 (wmE m k 2 2 3 (wmE m k 2 2 2 (wmE m k 2 2 1 (wmE m k 2 2 0 (true)))))) = wmB m k 2 2 → f_L L [(5, fi (0)), (4, fi (1)), (3, fi (2)), (2, fi (b)), (0, .ref 55), (1, fi (k))] → x_W none (1, 0, 6, 1, 11, 3, 66, 0, 0, ev_t160) 54 L [] hc 0 0 (fun r' h' => r' = some (fi (wm1 m k 4 4 (iS 1 4) (wm1 m k 3 3 (iS 1 3) (wm1 m k 2 2 (iS 1 2) (b))))) ∧ y_in yGw h' ∧ gi h' = m) := fun hc L hw hm hG hL => by
        refine f_il 0 rfl hL rfl ?_
        refine f_aln 4 rfl hL rfl ?_
        refine m_gfi so55 (m 55 21) rfl hw hm rfl rfl ?_
        refine f_ic rfl (by decide) (by omega) (fun ci => ?_) (fun ci => ?_)
        · have ci : (m 55 21 : Int) ≤ (0 : Int) := ci
          have e8 : wmE m k 2 2 5 (wmE m k 2 2 4 (wmE m k 2 2 3 (wmE m k 2 2 2 (wmE m k 2 2 1 (wmE m k 2 2 0 (true)))))) = true := by unfold wmE; rw [if_neg (by omega), if_neg (by omega), if_neg (by omega), if_neg (by omega), if_neg (by omega), if_neg (by omega)]
          rw [e8] at hG
          refine f_iln 3 rfl hL rfl ?_
          refine f_il 1 rfl hL rfl ?_
          refine f_if rfl (by decide) (fun c_9 => absurd (show (1 : Int) = (0 : Int) from c_9) (by decide)) (fun _ => ?_)
          refine f_s [fi (1), fi (b)] rfl rfl ?_
          refine f_iln 2 rfl hL rfl ?_
          refine b_ishl rfl ?_
          refine f_goto rfl ?_
          refine b_ior rfl ?_
          refine f_istn [(2, fi (iO (b) (iS (1) (2)))), (5, fi (0)), (4, fi (1)), (3, fi (2)), (0, .ref 55), (1, fi (k))] rfl (by decide) hL rfl (fun L267 hL267 => ?_)
          refine f_inc 3 [(3, fi (3)), (2, fi (iO (b) (iS (1) (2)))), (5, fi (0)), (4, fi (1)), (0, .ref 55), (1, fi (k))] rfl (by decide) hL267 rfl rfl (fun L268 hL268 => ?_)
          refine f_goto rfl ?_
          have e9 : wm1 m k 2 2 (iS 1 2) b = iO (b) (iS (1) (2)) := (if_pos pp).trans (by rw [← hG, if_pos rfl])
          rw [e9]
          exact hK3 hc _ _ hw hm (hL268.sel [0, 1, 4, 5] rfl)
        · have ci : ¬ ((m 55 21 : Int) ≤ (0 : Int)) := ci
          refine f_il 1 rfl hL rfl ?_
          refine f_if rfl (by decide) (fun c_9 => absurd (show (1 : Int) = (0 : Int) from c_9) (by decide)) (fun _ => ?_)
          refine f_aln 4 rfl hL rfl ?_
          refine m_gfr so55 rfl hw rfl (by decide) ?_
          refine f_il 0 rfl hL rfl ?_
          refine m_ia sa67 (m 67 0) rfl hw hm (by omega) (by omega) (by decide) rfl ?_
          refine f_s [fi (5), fi (m 67 0)] rfl rfl ?_
          refine f_iln 5 rfl hL rfl ?_
          refine f_iadd rfl ?_
          refine f_ic rfl (hR 67 0) (by omega) (fun c2 => ?_) (fun c2 => ?_)
          · have c2 : ¬ (m 67 0 : Int) = (5 + k : Int) := c2
            refine f_s [fi (1)] rfl rfl ?_
            refine f_goto rfl ?_
            refine f_ist [(4, fi (1)), (5, fi (0)), (3, fi (2)), (2, fi (b)), (0, .ref 55), (1, fi (k))] rfl (by decide) hL rfl (fun L269 hL269 => ?_)
            refine f_inc 1 [(5, fi (1)), (4, fi (1)), (3, fi (2)), (2, fi (b)), (0, .ref 55), (1, fi (k))] rfl (by decide) hL269 rfl rfl (fun L270 hL270 => ?_)
            refine f_goto rfl ?_
            have e9 : wmE m k 2 2 0 true = true := (if_pos (by omega)).trans (by rw [decide_eq_true c2]; rfl)
            rw [e9] at hG
            exact hI1_1 hc _ hw hm hG (hL270.sel [0, 1, 2, 3, 4, 5] rfl)
          · have c2 : ¬ (¬ (m 67 0 : Int) = (5 + k : Int)) := c2
            refine f_aln 4 rfl hL rfl ?_
            refine f_s [fi (0), .ref 55] rfl rfl ?_
            refine f_iln 2 rfl hL rfl ?_
            refine f_aln 4 rfl hL rfl ?_
            refine m_gfr so55 rfl hw rfl (by decide) ?_
            refine f_il 0 rfl hL rfl ?_
            refine m_ia sa68 (m 68 0) rfl hw hm (by omega) (by omega) (by decide) rfl ?_
            refine m_k1 (t90_0 (p := 2) (h := m 68 0) (by decide) (by decide) (hR 68 0) (fv := m 58 2) rfl (hR 58 _) (uv := m 59 2) rfl (hR 59 _)) hw hm rfl rfl rfl (m_ar so55 hw rfl) rfl (fun hc39 hw39 hm39 => ?_)
            have c2 : m 67 0 = 5 + k := by omega
            refine f_if rfl (bI_r _) (fun c3 => ?_) (fun c3 => ?_)
            · have c3 : (bI (decide (¬ iA (iR (m 61 16) (2)) (1) = 1 ∧ m 58 2 ≤ m 68 0 ∧ m 68 0 ≤ m 59 2)) : Int) = (0 : Int) := c3
              have c3 : ¬ (¬ iA (iR (m 61 16) (2)) (1) = 1 ∧ m 58 2 ≤ m 68 0 ∧ m 68 0 ≤ m 59 2) := bI_f c3
              refine f_s [fi (0)] rfl rfl ?_
              refine f_ist [(4, fi (0)), (5, fi (0)), (3, fi (2)), (2, fi (b)), (0, .ref 55), (1, fi (k))] rfl (by decide) hL rfl (fun L271 hL271 => ?_)
              refine f_inc 1 [(5, fi (1)), (4, fi (0)), (3, fi (2)), (2, fi (b)), (0, .ref 55), (1, fi (k))] rfl (by decide) hL271 rfl rfl (fun L272 hL272 => ?_)
              refine f_goto rfl ?_
              have e9 : wmE m k 2 2 0 true = false := (if_pos (by omega)).trans (by rw [decide_eq_false (fun z => z c2), decide_eq_false c3]; rfl)
              rw [e9] at hG
              exact hI1_0 hc39 _ hw39 hm39 hG (hL272.sel [0, 1, 2, 3, 4, 5] rfl)
            · have c3 : ¬ ((bI (decide (¬ iA (iR (m 61 16) (2)) (1) = 1 ∧ m 58 2 ≤ m 68 0 ∧ m 68 0 ≤ m 59 2)) : Int) = (0 : Int)) := c3
              have c3 : ¬ iA (iR (m 61 16) (2)) (1) = 1 ∧ m 58 2 ≤ m 68 0 ∧ m 68 0 ≤ m 59 2 := bI_t c3
              refine f_aln 4 rfl hL rfl ?_
              refine f_iln 2 rfl hL rfl ?_
              refine f_aln 4 rfl hL rfl ?_
              refine m_gfr so55 rfl hw39 rfl (by decide) ?_
              refine f_il 0 rfl hL rfl ?_
              refine m_ia sa68 (m 68 0) rfl hw39 hm39 (by omega) (by omega) (by decide) rfl ?_
              refine m_k1 (show h_M 159 [.ref 55, fi (2), fi (m 68 0)] m (some (fi (bI (sn m 2 (m 68 0))))) m from se_sn m 2 (m 68 0) ▸ t159 ht (by decide) (hR 68 0)) hw39 hm39 rfl rfl rfl (m_ar so55 hw39 rfl) rfl (fun hc40 hw40 hm40 => ?_)
              refine f_if rfl (bI_r _) (fun c4 => ?_) (fun c4 => ?_)
              · have c4 : ¬ (bI (sn m 2 (m 68 0)) : Int) = (0 : Int) := c4
                refine f_s [fi (0)] rfl rfl ?_
                refine f_ist [(4, fi (0)), (5, fi (0)), (3, fi (2)), (2, fi (b)), (0, .ref 55), (1, fi (k))] rfl (by decide) hL rfl (fun L273 hL273 => ?_)
                refine f_inc 1 [(5, fi (1)), (4, fi (0)), (3, fi (2)), (2, fi (b)), (0, .ref 55), (1, fi (k))] rfl (by decide) hL273 rfl rfl (fun L274 hL274 => ?_)
                refine f_goto rfl ?_
                have e9 : wmE m k 2 2 0 true = false := (if_pos (by omega)).trans (by rw [decide_eq_false (fun z => z c2), decide_eq_true c3, bI1 c4]; rfl)
                rw [e9] at hG
                exact hI1_0 hc40 _ hw40 hm40 hG (hL274.sel [0, 1, 2, 3, 4, 5] rfl)
              · have c4 : ¬ (¬ (bI (sn m 2 (m 68 0)) : Int) = (0 : Int)) := c4
                refine f_s [fi (1)] rfl rfl ?_
                refine f_goto rfl ?_
                refine f_ist [(4, fi (1)), (5, fi (0)), (3, fi (2)), (2, fi (b)), (0, .ref 55), (1, fi (k))] rfl (by decide) hL rfl (fun L275 hL275 => ?_)
                refine f_inc 1 [(5, fi (1)), (4, fi (1)), (3, fi (2)), (2, fi (b)), (0, .ref 55), (1, fi (k))] rfl (by decide) hL275 rfl rfl (fun L276 hL276 => ?_)
                refine f_goto rfl ?_
                have e9 : wmE m k 2 2 0 true = true := (if_pos (by omega)).trans (by rw [decide_eq_false (fun z => z c2), decide_eq_true c3, bI0 (Classical.byContradiction c4)]; rfl)
                rw [e9] at hG
                exact hI1_1 hc40 _ hw40 hm40 hG (hL276.sel [0, 1, 2, 3, 4, 5] rfl)
      refine f_aln 2 rfl hL rfl ?_
      refine f_s [fi (0), .ref 55] rfl rfl ?_
      refine f_iln 0 rfl hL rfl ?_
      refine m_k1 (t74_0 (by decide)) hw hm rfl rfl rfl (m_ar so55 hw rfl) rfl (fun hc41 hw41 hm41 => ?_)
      refine f_if rfl (bI_r _) (fun d1 => ?_) (fun d1 => ?_)
      · have d1 : ¬ (bI (decide (iA (iR (m 61 16) (2)) (1) = 1)) : Int) = (0 : Int) := d1
        have d1 : iA (iR (m 61 16) (2)) (1) = 1 := bI_t d1
        refine f_s [fi (0)] rfl rfl ?_
        refine f_ist [(4, fi (0)), (3, fi (2)), (2, fi (b)), (0, .ref 55), (1, fi (k))] rfl (by decide) hL rfl (fun L277 hL277 => ?_)
        refine f_s [fi (0)] rfl rfl ?_
        refine f_ist [(5, fi (0)), (4, fi (0)), (3, fi (2)), (2, fi (b)), (0, .ref 55), (1, fi (k))] rfl (by decide) hL277 rfl (fun L278 hL278 => ?_)
        have e7 : false = decide (¬ iA (iR (m 61 16) 2) 1 = 1 ∧ iA (iR (m 60 2) k) 1 = 1) := (decide_eq_false (fun z => z.1 d1)).symm
        exact hI0_0 hc41 _ hw41 hm41 (by rw [e7]; rfl) (hL278.sel [0, 1, 2, 3, 4, 5] rfl)
      · have d1 : ¬ (¬ (bI (decide (iA (iR (m 61 16) (2)) (1) = 1)) : Int) = (0 : Int)) := d1
        have d1 : ¬ (iA (iR (m 61 16) (2)) (1) = 1) := bI_n d1
        refine f_aln 2 rfl hL rfl ?_
        refine m_gfr so55 rfl hw41 rfl (by decide) ?_
        refine f_iln 0 rfl hL rfl ?_
        refine m_ia sa60 (m 60 2) rfl hw41 hm41 (by omega) (by omega) (by decide) rfl ?_
        refine f_iln 3 rfl hL rfl ?_
        refine m_k1 (t73 (hR 60 2) rk) hw41 hm41 rfl rfl rfl rfl rfl (fun hc42 hw42 hm42 => ?_)
        refine f_if rfl (bI_r _) (fun d2 => ?_) (fun d2 => ?_)
        · have d2 : (bI (decide (iA (iR (m 60 2) (k)) (1) = 1)) : Int) = (0 : Int) := d2
          have d2 : ¬ (iA (iR (m 60 2) (k)) (1) = 1) := bI_f d2
          refine f_s [fi (0)] rfl rfl ?_
          refine f_ist [(4, fi (0)), (3, fi (2)), (2, fi (b)), (0, .ref 55), (1, fi (k))] rfl (by decide) hL rfl (fun L279 hL279 => ?_)
          refine f_s [fi (0)] rfl rfl ?_
          refine f_ist [(5, fi (0)), (4, fi (0)), (3, fi (2)), (2, fi (b)), (0, .ref 55), (1, fi (k))] rfl (by decide) hL279 rfl (fun L280 hL280 => ?_)
          have e7 : false = decide (¬ iA (iR (m 61 16) 2) 1 = 1 ∧ iA (iR (m 60 2) k) 1 = 1) := (decide_eq_false (fun z => d2 z.2)).symm
          exact hI0_0 hc42 _ hw42 hm42 (by rw [e7]; rfl) (hL280.sel [0, 1, 2, 3, 4, 5] rfl)
        · have d2 : ¬ ((bI (decide (iA (iR (m 60 2) (k)) (1) = 1)) : Int) = (0 : Int)) := d2
          have d2 : iA (iR (m 60 2) (k)) (1) = 1 := bI_t d2
          refine f_s [fi (1)] rfl rfl ?_
          refine f_goto rfl ?_
          refine f_ist [(4, fi (1)), (3, fi (2)), (2, fi (b)), (0, .ref 55), (1, fi (k))] rfl (by decide) hL rfl (fun L281 hL281 => ?_)
          refine f_s [fi (0)] rfl rfl ?_
          refine f_ist [(5, fi (0)), (4, fi (1)), (3, fi (2)), (2, fi (b)), (0, .ref 55), (1, fi (k))] rfl (by decide) hL281 rfl (fun L282 hL282 => ?_)
          have e7 : true = decide (¬ iA (iR (m 61 16) 2) 1 = 1 ∧ iA (iR (m 60 2) k) 1 = 1) := (decide_eq_true ⟨d1, d2⟩).symm
          exact hI0_1 hc42 _ hw42 hm42 (by rw [e7]; rfl) (hL282.sel [0, 1, 2, 3, 4, 5] rfl)
  have hK1 : ∀ (hc : ev_H) (b : Int) (L : ev_L), y_in yGw hc → gi hc = m → f_L L [(3, fi (1)), (2, fi (b)), (0, .ref 55), (1, fi (k))] → x_W none (1, 0, 6, 1, 11, 3, 66, 0, 0, ev_t160) 14 L [] hc 0 0 (fun r' h' => r' = some (fi (wm1 m k 4 4 (iS 1 4) (wm1 m k 3 3 (iS 1 3) (wm1 m k 2 2 (iS 1 2) (wm1 m k 1 1 (iS 1 1) (b)))))) ∧ y_in yGw h' ∧ gi h' = m) := fun hc b L hw hm hL => by
    refine f_iln 0 rfl hL rfl ?_
    refine f_aln 2 rfl hL rfl ?_
    refine m_gfi so55 (m 55 1) rfl hw hm rfl rfl ?_
    refine f_ic rfl (by decide) (by omega) (fun c1 => ?_) (fun c1 => ?_)
    · have c1 : (m 55 1 : Int) ≤ (1 : Int) := c1
      have e8 : wm1 m k 4 4 (iS 1 4) (wm1 m k 3 3 (iS 1 3) (wm1 m k 2 2 (iS 1 2) (wm1 m k 1 1 (iS 1 1) (b)))) = b := by unfold wm1; rw [if_neg (by omega), if_neg (by omega), if_neg (by omega), if_neg (by omega)]
      rw [e8]
      refine f_iln 1 rfl hL rfl ?_
      exact f_ret1 rfl ⟨rfl, hw, hm⟩
    · have c1 : ¬ ((m 55 1 : Int) ≤ (1 : Int)) := c1
      have pp : (1 : Int) < m 55 1 := by omega
      have hI6_0 : ∀ (hc : ev_H) (L : ev_L), y_in yGw hc → gi hc = m → false = wmB m k 1 1 → f_L L [(5, fi (6)), (4, fi (0)), (3, fi (1)), (2, fi (b)), (0, .ref 55), (1, fi (k))] → x_W none (1, 0, 6, 1, 11, 3, 66, 0, 0, ev_t160) 54 L [] hc 0 0 (fun r' h' => r' = some (fi (wm1 m k 4 4 (iS 1 4) (wm1 m k 3 3 (iS 1 3) (wm1 m k 2 2 (iS 1 2) (wm1 m k 1 1 (iS 1 1) (b)))))) ∧ y_in yGw h' ∧ gi h' = m) := fun hc L hw hm hG hL => by
        refine f_il 0 rfl hL rfl ?_
        refine f_aln 4 rfl hL rfl ?_
        refine m_gfi so55 (m 55 21) rfl hw hm rfl rfl ?_
        refine f_ic rfl (by decide) (by omega) (fun _ => ?_) (fun c_9 => absurd (show (m 55 21 : Int) ≤ (6 : Int) from (by omega)) c_9)
        refine f_iln 3 rfl hL rfl ?_
        refine f_il 1 rfl hL rfl ?_
        refine f_if rfl (by decide) (fun _ => ?_) (fun c_9 => absurd (show (0 : Int) = (0 : Int) from (by decide)) c_9)
        refine f_s [fi (0), fi (b)] rfl rfl ?_
        refine b_ior rfl ?_
        refine f_istn [(2, fi (iO (b) (0))), (5, fi (6)), (4, fi (0)), (3, fi (1)), (0, .ref 55), (1, fi (k))] rfl (by decide) hL rfl (fun L283 hL283 => ?_)
        refine f_inc 3 [(3, fi (2)), (2, fi (iO (b) (0))), (5, fi (6)), (4, fi (0)), (0, .ref 55), (1, fi (k))] rfl (by decide) hL283 rfl rfl (fun L284 hL284 => ?_)
        refine f_goto rfl ?_
        have e9 : wm1 m k 1 1 (iS 1 1) b = iO (b) (0) := (if_pos pp).trans (by rw [← hG, if_neg (by decide)])
        rw [e9]
        exact hK2 hc _ _ hw hm (hL284.sel [0, 1, 4, 5] rfl)
      have hI6_1 : ∀ (hc : ev_H) (L : ev_L), y_in yGw hc → gi hc = m → true = wmB m k 1 1 → f_L L [(5, fi (6)), (4, fi (1)), (3, fi (1)), (2, fi (b)), (0, .ref 55), (1, fi (k))] → x_W none (1, 0, 6, 1, 11, 3, 66, 0, 0, ev_t160) 54 L [] hc 0 0 (fun r' h' => r' = some (fi (wm1 m k 4 4 (iS 1 4) (wm1 m k 3 3 (iS 1 3) (wm1 m k 2 2 (iS 1 2) (wm1 m k 1 1 (iS 1 1) (b)))))) ∧ y_in yGw h' ∧ gi h' = m) := fun hc L hw hm hG hL => by
        refine f_il 0 rfl hL rfl ?_
        refine f_aln 4 rfl hL rfl ?_
        refine m_gfi so55 (m 55 21) rfl hw hm rfl rfl ?_
        refine f_ic rfl (by decide) (by omega) (fun _ => ?_) (fun c_9 => absurd (show (m 55 21 : Int) ≤ (6 : Int) from (by omega)) c_9)
        refine f_iln 3 rfl hL rfl ?_
        refine f_il 1 rfl hL rfl ?_
        refine f_if rfl (by decide) (fun c_9 => absurd (show (1 : Int) = (0 : Int) from c_9) (by decide)) (fun _ => ?_)
        refine f_s [fi (1), fi (b)] rfl rfl ?_
        refine f_iln 2 rfl hL rfl ?_
        refine b_ishl rfl ?_
        refine f_goto rfl ?_
        refine b_ior rfl ?_
        refine f_istn [(2, fi (iO (b) (iS (1) (1)))), (5, fi (6)), (4, fi (1)), (3, fi (1)), (0, .ref 55), (1, fi (k))] rfl (by decide) hL rfl (fun L285 hL285 => ?_)
        refine f_inc 3 [(3, fi (2)), (2, fi (iO (b) (iS (1) (1)))), (5, fi (6)), (4, fi (1)), (0, .ref 55), (1, fi (k))] rfl (by decide) hL285 rfl rfl (fun L286 hL286 => ?_)
        refine f_goto rfl ?_
        have e9 : wm1 m k 1 1 (iS 1 1) b = iO (b) (iS (1) (1)) := (if_pos pp).trans (by rw [← hG, if_pos rfl])
        rw [e9]
        exact hK2 hc _ _ hw hm (hL286.sel [0, 1, 4, 5] rfl)
      have hI5_0 : ∀ (hc : ev_H) (L : ev_L), y_in yGw hc → gi hc = m → wmE m k 1 1 5 (false) = wmB m k 1 1 → f_L L [(5, fi (5)), (4, fi (0)), (3, fi (1)), (2, fi (b)), (0, .ref 55), (1, fi (k))] → x_W none (1, 0, 6, 1, 11, 3, 66, 0, 0, ev_t160) 54 L [] hc 0 0 (fun r' h' => r' = some (fi (wm1 m k 4 4 (iS 1 4) (wm1 m k 3 3 (iS 1 3) (wm1 m k 2 2 (iS 1 2) (wm1 m k 1 1 (iS 1 1) (b)))))) ∧ y_in yGw h' ∧ gi h' = m) := fun hc L hw hm hG hL => by
        refine f_il 0 rfl hL rfl ?_
        refine f_aln 4 rfl hL rfl ?_
        refine m_gfi so55 (m 55 21) rfl hw hm rfl rfl ?_
        refine f_ic rfl (by decide) (by omega) (fun ci => ?_) (fun ci => ?_)
        · have ci : (m 55 21 : Int) ≤ (5 : Int) := ci
          have e8 : wmE m k 1 1 5 (false) = false := by unfold wmE; rw [if_neg (by omega)]
          rw [e8] at hG
          refine f_iln 3 rfl hL rfl ?_
          refine f_il 1 rfl hL rfl ?_
          refine f_if rfl (by decide) (fun _ => ?_) (fun c_9 => absurd (show (0 : Int) = (0 : Int) from (by decide)) c_9)
          refine f_s [fi (0), fi (b)] rfl rfl ?_
          refine b_ior rfl ?_
          refine f_istn [(2, fi (iO (b) (0))), (5, fi (5)), (4, fi (0)), (3, fi (1)), (0, .ref 55), (1, fi (k))] rfl (by decide) hL rfl (fun L287 hL287 => ?_)
          refine f_inc 3 [(3, fi (2)), (2, fi (iO (b) (0))), (5, fi (5)), (4, fi (0)), (0, .ref 55), (1, fi (k))] rfl (by decide) hL287 rfl rfl (fun L288 hL288 => ?_)
          refine f_goto rfl ?_
          have e9 : wm1 m k 1 1 (iS 1 1) b = iO (b) (0) := (if_pos pp).trans (by rw [← hG, if_neg (by decide)])
          rw [e9]
          exact hK2 hc _ _ hw hm (hL288.sel [0, 1, 4, 5] rfl)
        · have ci : ¬ ((m 55 21 : Int) ≤ (5 : Int)) := ci
          refine f_il 1 rfl hL rfl ?_
          refine f_if rfl (by decide) (fun _ => ?_) (fun c_9 => absurd (show (0 : Int) = (0 : Int) from (by decide)) c_9)
          refine f_s [fi (0)] rfl rfl ?_
          refine f_ist [(4, fi (0)), (5, fi (5)), (3, fi (1)), (2, fi (b)), (0, .ref 55), (1, fi (k))] rfl (by decide) hL rfl (fun L289 hL289 => ?_)
          refine f_inc 1 [(5, fi (6)), (4, fi (0)), (3, fi (1)), (2, fi (b)), (0, .ref 55), (1, fi (k))] rfl (by decide) hL289 rfl rfl (fun L290 hL290 => ?_)
          refine f_goto rfl ?_
          have e9 : wmE m k 1 1 5 false = false := (if_pos (by omega)).trans (by rfl)
          rw [e9] at hG
          exact hI6_0 hc _ hw hm hG (hL290.sel [0, 1, 2, 3, 4, 5] rfl)
      have hI5_1 : ∀ (hc : ev_H) (L : ev_L), y_in yGw hc → gi hc = m → wmE m k 1 1 5 (true) = wmB m k 1 1 → f_L L [(5, fi (5)), (4, fi (1)), (3, fi (1)), (2, fi (b)), (0, .ref 55), (1, fi (k))] → x_W none (1, 0, 6, 1, 11, 3, 66, 0, 0, ev_t160) 54 L [] hc 0 0 (fun r' h' => r' = some (fi (wm1 m k 4 4 (iS 1 4) (wm1 m k 3 3 (iS 1 3) (wm1 m k 2 2 (iS 1 2) (wm1 m k 1 1 (iS 1 1) (b)))))) ∧ y_in yGw h' ∧ gi h' = m) := fun hc L hw hm hG hL => by
        refine f_il 0 rfl hL rfl ?_
        refine f_aln 4 rfl hL rfl ?_
        refine m_gfi so55 (m 55 21) rfl hw hm rfl rfl ?_
        refine f_ic rfl (by decide) (by omega) (fun ci => ?_) (fun ci => ?_)
        · have ci : (m 55 21 : Int) ≤ (5 : Int) := ci
          have e8 : wmE m k 1 1 5 (true) = true := by unfold wmE; rw [if_neg (by omega)]
          rw [e8] at hG
          refine f_iln 3 rfl hL rfl ?_
          refine f_il 1 rfl hL rfl ?_
          refine f_if rfl (by decide) (fun c_9 => absurd (show (1 : Int) = (0 : Int) from c_9) (by decide)) (fun _ => ?_)
          refine f_s [fi (1), fi (b)] rfl rfl ?_
          refine f_iln 2 rfl hL rfl ?_
          refine b_ishl rfl ?_
          refine f_goto rfl ?_
          refine b_ior rfl ?_
          refine f_istn [(2, fi (iO (b) (iS (1) (1)))), (5, fi (5)), (4, fi (1)), (3, fi (1)), (0, .ref 55), (1, fi (k))] rfl (by decide) hL rfl (fun L291 hL291 => ?_)
          refine f_inc 3 [(3, fi (2)), (2, fi (iO (b) (iS (1) (1)))), (5, fi (5)), (4, fi (1)), (0, .ref 55), (1, fi (k))] rfl (by decide) hL291 rfl rfl (fun L292 hL292 => ?_)
          refine f_goto rfl ?_
          have e9 : wm1 m k 1 1 (iS 1 1) b = iO (b) (iS (1) (1)) := (if_pos pp).trans (by rw [← hG, if_pos rfl])
          rw [e9]
          exact hK2 hc _ _ hw hm (hL292.sel [0, 1, 4, 5] rfl)
        · have ci : ¬ ((m 55 21 : Int) ≤ (5 : Int)) := ci
          refine f_il 1 rfl hL rfl ?_
          refine f_if rfl (by decide) (fun c_9 => absurd (show (1 : Int) = (0 : Int) from c_9) (by decide)) (fun _ => ?_)
          refine f_aln 4 rfl hL rfl ?_
          refine m_gfr so55 rfl hw rfl (by decide) ?_
          refine f_il 0 rfl hL rfl ?_
          refine m_ia sa67 (m 67 5) rfl hw hm (by omega) (by omega) (by decide) rfl ?_
          refine f_s [fi (5), fi (m 67 5)] rfl rfl ?_
          refine f_iln 5 rfl hL rfl ?_
          refine f_iadd rfl ?_
          refine f_ic rfl (hR 67 5) (by omega) (fun c2 => ?_) (fun c2 => ?_)
          · have c2 : ¬ (m 67 5 : Int) = (5 + k : Int) := c2
            refine f_s [fi (1)] rfl rfl ?_
            refine f_goto rfl ?_
            refine f_ist [(4, fi (1)), (5, fi (5)), (3, fi (1)), (2, fi (b)), (0, .ref 55), (1, fi (k))] rfl (by decide) hL rfl (fun L293 hL293 => ?_)
            refine f_inc 1 [(5, fi (6)), (4, fi (1)), (3, fi (1)), (2, fi (b)), (0, .ref 55), (1, fi (k))] rfl (by decide) hL293 rfl rfl (fun L294 hL294 => ?_)
            refine f_goto rfl ?_
            have e9 : wmE m k 1 1 5 true = true := (if_pos (by omega)).trans (by rw [decide_eq_true c2]; rfl)
            rw [e9] at hG
            exact hI6_1 hc _ hw hm hG (hL294.sel [0, 1, 2, 3, 4, 5] rfl)
          · have c2 : ¬ (¬ (m 67 5 : Int) = (5 + k : Int)) := c2
            refine f_aln 4 rfl hL rfl ?_
            refine f_s [fi (0), .ref 55] rfl rfl ?_
            refine f_iln 2 rfl hL rfl ?_
            refine f_aln 4 rfl hL rfl ?_
            refine m_gfr so55 rfl hw rfl (by decide) ?_
            refine f_il 0 rfl hL rfl ?_
            refine m_ia sa68 (m 68 5) rfl hw hm (by omega) (by omega) (by decide) rfl ?_
            refine m_k1 (t90_0 (p := 1) (h := m 68 5) (by decide) (by decide) (hR 68 5) (fv := m 58 1) rfl (hR 58 _) (uv := m 59 1) rfl (hR 59 _)) hw hm rfl rfl rfl (m_ar so55 hw rfl) rfl (fun hc43 hw43 hm43 => ?_)
            have c2 : m 67 5 = 5 + k := by omega
            refine f_if rfl (bI_r _) (fun c3 => ?_) (fun c3 => ?_)
            · have c3 : (bI (decide (¬ iA (iR (m 61 16) (1)) (1) = 1 ∧ m 58 1 ≤ m 68 5 ∧ m 68 5 ≤ m 59 1)) : Int) = (0 : Int) := c3
              have c3 : ¬ (¬ iA (iR (m 61 16) (1)) (1) = 1 ∧ m 58 1 ≤ m 68 5 ∧ m 68 5 ≤ m 59 1) := bI_f c3
              refine f_s [fi (0)] rfl rfl ?_
              refine f_ist [(4, fi (0)), (5, fi (5)), (3, fi (1)), (2, fi (b)), (0, .ref 55), (1, fi (k))] rfl (by decide) hL rfl (fun L295 hL295 => ?_)
              refine f_inc 1 [(5, fi (6)), (4, fi (0)), (3, fi (1)), (2, fi (b)), (0, .ref 55), (1, fi (k))] rfl (by decide) hL295 rfl rfl (fun L296 hL296 => ?_)
              refine f_goto rfl ?_
              have e9 : wmE m k 1 1 5 true = false := (if_pos (by omega)).trans (by rw [decide_eq_false (fun z => z c2), decide_eq_false c3]; rfl)
              rw [e9] at hG
              exact hI6_0 hc43 _ hw43 hm43 hG (hL296.sel [0, 1, 2, 3, 4, 5] rfl)
            · have c3 : ¬ ((bI (decide (¬ iA (iR (m 61 16) (1)) (1) = 1 ∧ m 58 1 ≤ m 68 5 ∧ m 68 5 ≤ m 59 1)) : Int) = (0 : Int)) := c3
              have c3 : ¬ iA (iR (m 61 16) (1)) (1) = 1 ∧ m 58 1 ≤ m 68 5 ∧ m 68 5 ≤ m 59 1 := bI_t c3
              refine f_aln 4 rfl hL rfl ?_
              refine f_iln 2 rfl hL rfl ?_
              refine f_aln 4 rfl hL rfl ?_
              refine m_gfr so55 rfl hw43 rfl (by decide) ?_
              refine f_il 0 rfl hL rfl ?_
              refine m_ia sa68 (m 68 5) rfl hw43 hm43 (by omega) (by omega) (by decide) rfl ?_
              refine m_k1 (show h_M 159 [.ref 55, fi (1), fi (m 68 5)] m (some (fi (bI (sn m 1 (m 68 5))))) m from se_sn m 1 (m 68 5) ▸ t159 ht (by decide) (hR 68 5)) hw43 hm43 rfl rfl rfl (m_ar so55 hw43 rfl) rfl (fun hc44 hw44 hm44 => ?_)
              refine f_if rfl (bI_r _) (fun c4 => ?_) (fun c4 => ?_)
              · have c4 : ¬ (bI (sn m 1 (m 68 5)) : Int) = (0 : Int) := c4
                refine f_s [fi (0)] rfl rfl ?_
                refine f_ist [(4, fi (0)), (5, fi (5)), (3, fi (1)), (2, fi (b)), (0, .ref 55), (1, fi (k))] rfl (by decide) hL rfl (fun L297 hL297 => ?_)
                refine f_inc 1 [(5, fi (6)), (4, fi (0)), (3, fi (1)), (2, fi (b)), (0, .ref 55), (1, fi (k))] rfl (by decide) hL297 rfl rfl (fun L298 hL298 => ?_)
                refine f_goto rfl ?_
                have e9 : wmE m k 1 1 5 true = false := (if_pos (by omega)).trans (by rw [decide_eq_false (fun z => z c2), decide_eq_true c3, bI1 c4]; rfl)
                rw [e9] at hG
                exact hI6_0 hc44 _ hw44 hm44 hG (hL298.sel [0, 1, 2, 3, 4, 5] rfl)
              · have c4 : ¬ (¬ (bI (sn m 1 (m 68 5)) : Int) = (0 : Int)) := c4
                refine f_s [fi (1)] rfl rfl ?_
                refine f_goto rfl ?_
                refine f_ist [(4, fi (1)), (5, fi (5)), (3, fi (1)), (2, fi (b)), (0, .ref 55), (1, fi (k))] rfl (by decide) hL rfl (fun L299 hL299 => ?_)
                refine f_inc 1 [(5, fi (6)), (4, fi (1)), (3, fi (1)), (2, fi (b)), (0, .ref 55), (1, fi (k))] rfl (by decide) hL299 rfl rfl (fun L300 hL300 => ?_)
                refine f_goto rfl ?_
                have e9 : wmE m k 1 1 5 true = true := (if_pos (by omega)).trans (by rw [decide_eq_false (fun z => z c2), decide_eq_true c3, bI0 (Classical.byContradiction c4)]; rfl)
                rw [e9] at hG
                exact hI6_1 hc44 _ hw44 hm44 hG (hL300.sel [0, 1, 2, 3, 4, 5] rfl)
      have hI4_0 : ∀ (hc : ev_H) (L : ev_L), y_in yGw hc → gi hc = m → wmE m k 1 1 5 (wmE m k 1 1 4 (false)) = wmB m k 1 1 → f_L L [(5, fi (4)), (4, fi (0)), (3, fi (1)), (2, fi (b)), (0, .ref 55), (1, fi (k))] → x_W none (1, 0, 6, 1, 11, 3, 66, 0, 0, ev_t160) 54 L [] hc 0 0 (fun r' h' => r' = some (fi (wm1 m k 4 4 (iS 1 4) (wm1 m k 3 3 (iS 1 3) (wm1 m k 2 2 (iS 1 2) (wm1 m k 1 1 (iS 1 1) (b)))))) ∧ y_in yGw h' ∧ gi h' = m) := fun hc L hw hm hG hL => by
        refine f_il 0 rfl hL rfl ?_
        refine f_aln 4 rfl hL rfl ?_
        refine m_gfi so55 (m 55 21) rfl hw hm rfl rfl ?_
        refine f_ic rfl (by decide) (by omega) (fun ci => ?_) (fun ci => ?_)
        · have ci : (m 55 21 : Int) ≤ (4 : Int) := ci
          have e8 : wmE m k 1 1 5 (wmE m k 1 1 4 (false)) = false := by unfold wmE; rw [if_neg (by omega), if_neg (by omega)]
          rw [e8] at hG
          refine f_iln 3 rfl hL rfl ?_
          refine f_il 1 rfl hL rfl ?_
          refine f_if rfl (by decide) (fun _ => ?_) (fun c_9 => absurd (show (0 : Int) = (0 : Int) from (by decide)) c_9)
          refine f_s [fi (0), fi (b)] rfl rfl ?_
          refine b_ior rfl ?_
          refine f_istn [(2, fi (iO (b) (0))), (5, fi (4)), (4, fi (0)), (3, fi (1)), (0, .ref 55), (1, fi (k))] rfl (by decide) hL rfl (fun L301 hL301 => ?_)
          refine f_inc 3 [(3, fi (2)), (2, fi (iO (b) (0))), (5, fi (4)), (4, fi (0)), (0, .ref 55), (1, fi (k))] rfl (by decide) hL301 rfl rfl (fun L302 hL302 => ?_)
          refine f_goto rfl ?_
          have e9 : wm1 m k 1 1 (iS 1 1) b = iO (b) (0) := (if_pos pp).trans (by rw [← hG, if_neg (by decide)])
          rw [e9]
          exact hK2 hc _ _ hw hm (hL302.sel [0, 1, 4, 5] rfl)
        · have ci : ¬ ((m 55 21 : Int) ≤ (4 : Int)) := ci
          refine f_il 1 rfl hL rfl ?_
          refine f_if rfl (by decide) (fun _ => ?_) (fun c_9 => absurd (show (0 : Int) = (0 : Int) from (by decide)) c_9)
          refine f_s [fi (0)] rfl rfl ?_
          refine f_ist [(4, fi (0)), (5, fi (4)), (3, fi (1)), (2, fi (b)), (0, .ref 55), (1, fi (k))] rfl (by decide) hL rfl (fun L303 hL303 => ?_)
          refine f_inc 1 [(5, fi (5)), (4, fi (0)), (3, fi (1)), (2, fi (b)), (0, .ref 55), (1, fi (k))] rfl (by decide) hL303 rfl rfl (fun L304 hL304 => ?_)
          refine f_goto rfl ?_
          have e9 : wmE m k 1 1 4 false = false := (if_pos (by omega)).trans (by rfl)
          rw [e9] at hG
          exact hI5_0 hc _ hw hm hG (hL304.sel [0, 1, 2, 3, 4, 5] rfl)
      have hI4_1 : ∀ (hc : ev_H) (L : ev_L), y_in yGw hc → gi hc = m → wmE m k 1 1 5 (wmE m k 1 1 4 (true)) = wmB m k 1 1 → f_L L [(5, fi (4)), (4, fi (1)), (3, fi (1)), (2, fi (b)), (0, .ref 55), (1, fi (k))] → x_W none (1, 0, 6, 1, 11, 3, 66, 0, 0, ev_t160) 54 L [] hc 0 0 (fun r' h' => r' = some (fi (wm1 m k 4 4 (iS 1 4) (wm1 m k 3 3 (iS 1 3) (wm1 m k 2 2 (iS 1 2) (wm1 m k 1 1 (iS 1 1) (b)))))) ∧ y_in yGw h' ∧ gi h' = m) := fun hc L hw hm hG hL => by
        refine f_il 0 rfl hL rfl ?_
        refine f_aln 4 rfl hL rfl ?_
        refine m_gfi so55 (m 55 21) rfl hw hm rfl rfl ?_
        refine f_ic rfl (by decide) (by omega) (fun ci => ?_) (fun ci => ?_)
        · have ci : (m 55 21 : Int) ≤ (4 : Int) := ci
          have e8 : wmE m k 1 1 5 (wmE m k 1 1 4 (true)) = true := by unfold wmE; rw [if_neg (by omega), if_neg (by omega)]
          rw [e8] at hG
          refine f_iln 3 rfl hL rfl ?_
          refine f_il 1 rfl hL rfl ?_
          refine f_if rfl (by decide) (fun c_9 => absurd (show (1 : Int) = (0 : Int) from c_9) (by decide)) (fun _ => ?_)
          refine f_s [fi (1), fi (b)] rfl rfl ?_
          refine f_iln 2 rfl hL rfl ?_
          refine b_ishl rfl ?_
          refine f_goto rfl ?_
          refine b_ior rfl ?_
          refine f_istn [(2, fi (iO (b) (iS (1) (1)))), (5, fi (4)), (4, fi (1)), (3, fi (1)), (0, .ref 55), (1, fi (k))] rfl (by decide) hL rfl (fun L305 hL305 => ?_)
          refine f_inc 3 [(3, fi (2)), (2, fi (iO (b) (iS (1) (1)))), (5, fi (4)), (4, fi (1)), (0, .ref 55), (1, fi (k))] rfl (by decide) hL305 rfl rfl (fun L306 hL306 => ?_)
          refine f_goto rfl ?_
          have e9 : wm1 m k 1 1 (iS 1 1) b = iO (b) (iS (1) (1)) := (if_pos pp).trans (by rw [← hG, if_pos rfl])
          rw [e9]
          exact hK2 hc _ _ hw hm (hL306.sel [0, 1, 4, 5] rfl)
        · have ci : ¬ ((m 55 21 : Int) ≤ (4 : Int)) := ci
          refine f_il 1 rfl hL rfl ?_
          refine f_if rfl (by decide) (fun c_9 => absurd (show (1 : Int) = (0 : Int) from c_9) (by decide)) (fun _ => ?_)
          refine f_aln 4 rfl hL rfl ?_
          refine m_gfr so55 rfl hw rfl (by decide) ?_
          refine f_il 0 rfl hL rfl ?_
          refine m_ia sa67 (m 67 4) rfl hw hm (by omega) (by omega) (by decide) rfl ?_
          refine f_s [fi (5), fi (m 67 4)] rfl rfl ?_
          refine f_iln 5 rfl hL rfl ?_
          refine f_iadd rfl ?_
          refine f_ic rfl (hR 67 4) (by omega) (fun c2 => ?_) (fun c2 => ?_)
          · have c2 : ¬ (m 67 4 : Int) = (5 + k : Int) := c2
            refine f_s [fi (1)] rfl rfl ?_
            refine f_goto rfl ?_
            refine f_ist [(4, fi (1)), (5, fi (4)), (3, fi (1)), (2, fi (b)), (0, .ref 55), (1, fi (k))] rfl (by decide) hL rfl (fun L307 hL307 => ?_)
            refine f_inc 1 [(5, fi (5)), (4, fi (1)), (3, fi (1)), (2, fi (b)), (0, .ref 55), (1, fi (k))] rfl (by decide) hL307 rfl rfl (fun L308 hL308 => ?_)
            refine f_goto rfl ?_
            have e9 : wmE m k 1 1 4 true = true := (if_pos (by omega)).trans (by rw [decide_eq_true c2]; rfl)
            rw [e9] at hG
            exact hI5_1 hc _ hw hm hG (hL308.sel [0, 1, 2, 3, 4, 5] rfl)
          · have c2 : ¬ (¬ (m 67 4 : Int) = (5 + k : Int)) := c2
            refine f_aln 4 rfl hL rfl ?_
            refine f_s [fi (0), .ref 55] rfl rfl ?_
            refine f_iln 2 rfl hL rfl ?_
            refine f_aln 4 rfl hL rfl ?_
            refine m_gfr so55 rfl hw rfl (by decide) ?_
            refine f_il 0 rfl hL rfl ?_
            refine m_ia sa68 (m 68 4) rfl hw hm (by omega) (by omega) (by decide) rfl ?_
            refine m_k1 (t90_0 (p := 1) (h := m 68 4) (by decide) (by decide) (hR 68 4) (fv := m 58 1) rfl (hR 58 _) (uv := m 59 1) rfl (hR 59 _)) hw hm rfl rfl rfl (m_ar so55 hw rfl) rfl (fun hc45 hw45 hm45 => ?_)
            have c2 : m 67 4 = 5 + k := by omega
            refine f_if rfl (bI_r _) (fun c3 => ?_) (fun c3 => ?_)
            · have c3 : (bI (decide (¬ iA (iR (m 61 16) (1)) (1) = 1 ∧ m 58 1 ≤ m 68 4 ∧ m 68 4 ≤ m 59 1)) : Int) = (0 : Int) := c3
              have c3 : ¬ (¬ iA (iR (m 61 16) (1)) (1) = 1 ∧ m 58 1 ≤ m 68 4 ∧ m 68 4 ≤ m 59 1) := bI_f c3
              refine f_s [fi (0)] rfl rfl ?_
              refine f_ist [(4, fi (0)), (5, fi (4)), (3, fi (1)), (2, fi (b)), (0, .ref 55), (1, fi (k))] rfl (by decide) hL rfl (fun L309 hL309 => ?_)
              refine f_inc 1 [(5, fi (5)), (4, fi (0)), (3, fi (1)), (2, fi (b)), (0, .ref 55), (1, fi (k))] rfl (by decide) hL309 rfl rfl (fun L310 hL310 => ?_)
              refine f_goto rfl ?_
              have e9 : wmE m k 1 1 4 true = false := (if_pos (by omega)).trans (by rw [decide_eq_false (fun z => z c2), decide_eq_false c3]; rfl)
              rw [e9] at hG
              exact hI5_0 hc45 _ hw45 hm45 hG (hL310.sel [0, 1, 2, 3, 4, 5] rfl)
            · have c3 : ¬ ((bI (decide (¬ iA (iR (m 61 16) (1)) (1) = 1 ∧ m 58 1 ≤ m 68 4 ∧ m 68 4 ≤ m 59 1)) : Int) = (0 : Int)) := c3
              have c3 : ¬ iA (iR (m 61 16) (1)) (1) = 1 ∧ m 58 1 ≤ m 68 4 ∧ m 68 4 ≤ m 59 1 := bI_t c3
              refine f_aln 4 rfl hL rfl ?_
              refine f_iln 2 rfl hL rfl ?_
              refine f_aln 4 rfl hL rfl ?_
              refine m_gfr so55 rfl hw45 rfl (by decide) ?_
              refine f_il 0 rfl hL rfl ?_
              refine m_ia sa68 (m 68 4) rfl hw45 hm45 (by omega) (by omega) (by decide) rfl ?_
              refine m_k1 (show h_M 159 [.ref 55, fi (1), fi (m 68 4)] m (some (fi (bI (sn m 1 (m 68 4))))) m from se_sn m 1 (m 68 4) ▸ t159 ht (by decide) (hR 68 4)) hw45 hm45 rfl rfl rfl (m_ar so55 hw45 rfl) rfl (fun hc46 hw46 hm46 => ?_)
              refine f_if rfl (bI_r _) (fun c4 => ?_) (fun c4 => ?_)
              · have c4 : ¬ (bI (sn m 1 (m 68 4)) : Int) = (0 : Int) := c4
                refine f_s [fi (0)] rfl rfl ?_
                refine f_ist [(4, fi (0)), (5, fi (4)), (3, fi (1)), (2, fi (b)), (0, .ref 55), (1, fi (k))] rfl (by decide) hL rfl (fun L311 hL311 => ?_)
                refine f_inc 1 [(5, fi (5)), (4, fi (0)), (3, fi (1)), (2, fi (b)), (0, .ref 55), (1, fi (k))] rfl (by decide) hL311 rfl rfl (fun L312 hL312 => ?_)
                refine f_goto rfl ?_
                have e9 : wmE m k 1 1 4 true = false := (if_pos (by omega)).trans (by rw [decide_eq_false (fun z => z c2), decide_eq_true c3, bI1 c4]; rfl)
                rw [e9] at hG
                exact hI5_0 hc46 _ hw46 hm46 hG (hL312.sel [0, 1, 2, 3, 4, 5] rfl)
              · have c4 : ¬ (¬ (bI (sn m 1 (m 68 4)) : Int) = (0 : Int)) := c4
                refine f_s [fi (1)] rfl rfl ?_
                refine f_goto rfl ?_
                refine f_ist [(4, fi (1)), (5, fi (4)), (3, fi (1)), (2, fi (b)), (0, .ref 55), (1, fi (k))] rfl (by decide) hL rfl (fun L313 hL313 => ?_)
                refine f_inc 1 [(5, fi (5)), (4, fi (1)), (3, fi (1)), (2, fi (b)), (0, .ref 55), (1, fi (k))] rfl (by decide) hL313 rfl rfl (fun L314 hL314 => ?_)
                refine f_goto rfl ?_
                have e9 : wmE m k 1 1 4 true = true := (if_pos (by omega)).trans (by rw [decide_eq_false (fun z => z c2), decide_eq_true c3, bI0 (Classical.byContradiction c4)]; rfl)
                rw [e9] at hG
                exact hI5_1 hc46 _ hw46 hm46 hG (hL314.sel [0, 1, 2, 3, 4, 5] rfl)
      have hI3_0 : ∀ (hc : ev_H) (L : ev_L), y_in yGw hc → gi hc = m → wmE m k 1 1 5 (wmE m k 1 1 4 (wmE m k 1 1 3 (false))) = wmB m k 1 1 → f_L L [(5, fi (3)), (4, fi (0)), (3, fi (1)), (2, fi (b)), (0, .ref 55), (1, fi (k))] → x_W none (1, 0, 6, 1, 11, 3, 66, 0, 0, ev_t160) 54 L [] hc 0 0 (fun r' h' => r' = some (fi (wm1 m k 4 4 (iS 1 4) (wm1 m k 3 3 (iS 1 3) (wm1 m k 2 2 (iS 1 2) (wm1 m k 1 1 (iS 1 1) (b)))))) ∧ y_in yGw h' ∧ gi h' = m) := fun hc L hw hm hG hL => by
        refine f_il 0 rfl hL rfl ?_
        refine f_aln 4 rfl hL rfl ?_
        refine m_gfi so55 (m 55 21) rfl hw hm rfl rfl ?_
        refine f_ic rfl (by decide) (by omega) (fun ci => ?_) (fun ci => ?_)
        · have ci : (m 55 21 : Int) ≤ (3 : Int) := ci
          have e8 : wmE m k 1 1 5 (wmE m k 1 1 4 (wmE m k 1 1 3 (false))) = false := by unfold wmE; rw [if_neg (by omega), if_neg (by omega), if_neg (by omega)]
          rw [e8] at hG
          refine f_iln 3 rfl hL rfl ?_
          refine f_il 1 rfl hL rfl ?_
          refine f_if rfl (by decide) (fun _ => ?_) (fun c_9 => absurd (show (0 : Int) = (0 : Int) from (by decide)) c_9)
          refine f_s [fi (0), fi (b)] rfl rfl ?_
          refine b_ior rfl ?_
          refine f_istn [(2, fi (iO (b) (0))), (5, fi (3)), (4, fi (0)), (3, fi (1)), (0, .ref 55), (1, fi (k))] rfl (by decide) hL rfl (fun L315 hL315 => ?_)
          refine f_inc 3 [(3, fi (2)), (2, fi (iO (b) (0))), (5, fi (3)), (4, fi (0)), (0, .ref 55), (1, fi (k))] rfl (by decide) hL315 rfl rfl (fun L316 hL316 => ?_)
          refine f_goto rfl ?_
          have e9 : wm1 m k 1 1 (iS 1 1) b = iO (b) (0) := (if_pos pp).trans (by rw [← hG, if_neg (by decide)])
          rw [e9]
          exact hK2 hc _ _ hw hm (hL316.sel [0, 1, 4, 5] rfl)
        · have ci : ¬ ((m 55 21 : Int) ≤ (3 : Int)) := ci
          refine f_il 1 rfl hL rfl ?_
          refine f_if rfl (by decide) (fun _ => ?_) (fun c_9 => absurd (show (0 : Int) = (0 : Int) from (by decide)) c_9)
          refine f_s [fi (0)] rfl rfl ?_
          refine f_ist [(4, fi (0)), (5, fi (3)), (3, fi (1)), (2, fi (b)), (0, .ref 55), (1, fi (k))] rfl (by decide) hL rfl (fun L317 hL317 => ?_)
          refine f_inc 1 [(5, fi (4)), (4, fi (0)), (3, fi (1)), (2, fi (b)), (0, .ref 55), (1, fi (k))] rfl (by decide) hL317 rfl rfl (fun L318 hL318 => ?_)
          refine f_goto rfl ?_
          have e9 : wmE m k 1 1 3 false = false := (if_pos (by omega)).trans (by rfl)
          rw [e9] at hG
          exact hI4_0 hc _ hw hm hG (hL318.sel [0, 1, 2, 3, 4, 5] rfl)
      have hI3_1 : ∀ (hc : ev_H) (L : ev_L), y_in yGw hc → gi hc = m → wmE m k 1 1 5 (wmE m k 1 1 4 (wmE m k 1 1 3 (true))) = wmB m k 1 1 → f_L L [(5, fi (3)), (4, fi (1)), (3, fi (1)), (2, fi (b)), (0, .ref 55), (1, fi (k))] → x_W none (1, 0, 6, 1, 11, 3, 66, 0, 0, ev_t160) 54 L [] hc 0 0 (fun r' h' => r' = some (fi (wm1 m k 4 4 (iS 1 4) (wm1 m k 3 3 (iS 1 3) (wm1 m k 2 2 (iS 1 2) (wm1 m k 1 1 (iS 1 1) (b)))))) ∧ y_in yGw h' ∧ gi h' = m) := fun hc L hw hm hG hL => by
        refine f_il 0 rfl hL rfl ?_
        refine f_aln 4 rfl hL rfl ?_
        refine m_gfi so55 (m 55 21) rfl hw hm rfl rfl ?_
        refine f_ic rfl (by decide) (by omega) (fun ci => ?_) (fun ci => ?_)
        · have ci : (m 55 21 : Int) ≤ (3 : Int) := ci
          have e8 : wmE m k 1 1 5 (wmE m k 1 1 4 (wmE m k 1 1 3 (true))) = true := by unfold wmE; rw [if_neg (by omega), if_neg (by omega), if_neg (by omega)]
          rw [e8] at hG
          refine f_iln 3 rfl hL rfl ?_
          refine f_il 1 rfl hL rfl ?_
          refine f_if rfl (by decide) (fun c_9 => absurd (show (1 : Int) = (0 : Int) from c_9) (by decide)) (fun _ => ?_)
          refine f_s [fi (1), fi (b)] rfl rfl ?_
          refine f_iln 2 rfl hL rfl ?_
          refine b_ishl rfl ?_
          refine f_goto rfl ?_
          refine b_ior rfl ?_
          refine f_istn [(2, fi (iO (b) (iS (1) (1)))), (5, fi (3)), (4, fi (1)), (3, fi (1)), (0, .ref 55), (1, fi (k))] rfl (by decide) hL rfl (fun L319 hL319 => ?_)
          refine f_inc 3 [(3, fi (2)), (2, fi (iO (b) (iS (1) (1)))), (5, fi (3)), (4, fi (1)), (0, .ref 55), (1, fi (k))] rfl (by decide) hL319 rfl rfl (fun L320 hL320 => ?_)
          refine f_goto rfl ?_
          have e9 : wm1 m k 1 1 (iS 1 1) b = iO (b) (iS (1) (1)) := (if_pos pp).trans (by rw [← hG, if_pos rfl])
          rw [e9]
          exact hK2 hc _ _ hw hm (hL320.sel [0, 1, 4, 5] rfl)
        · have ci : ¬ ((m 55 21 : Int) ≤ (3 : Int)) := ci
          refine f_il 1 rfl hL rfl ?_
          refine f_if rfl (by decide) (fun c_9 => absurd (show (1 : Int) = (0 : Int) from c_9) (by decide)) (fun _ => ?_)
          refine f_aln 4 rfl hL rfl ?_
          refine m_gfr so55 rfl hw rfl (by decide) ?_
          refine f_il 0 rfl hL rfl ?_
          refine m_ia sa67 (m 67 3) rfl hw hm (by omega) (by omega) (by decide) rfl ?_
          refine f_s [fi (5), fi (m 67 3)] rfl rfl ?_
          refine f_iln 5 rfl hL rfl ?_
          refine f_iadd rfl ?_
          refine f_ic rfl (hR 67 3) (by omega) (fun c2 => ?_) (fun c2 => ?_)
          · have c2 : ¬ (m 67 3 : Int) = (5 + k : Int) := c2
            refine f_s [fi (1)] rfl rfl ?_
            refine f_goto rfl ?_
            refine f_ist [(4, fi (1)), (5, fi (3)), (3, fi (1)), (2, fi (b)), (0, .ref 55), (1, fi (k))] rfl (by decide) hL rfl (fun L321 hL321 => ?_)
            refine f_inc 1 [(5, fi (4)), (4, fi (1)), (3, fi (1)), (2, fi (b)), (0, .ref 55), (1, fi (k))] rfl (by decide) hL321 rfl rfl (fun L322 hL322 => ?_)
            refine f_goto rfl ?_
            have e9 : wmE m k 1 1 3 true = true := (if_pos (by omega)).trans (by rw [decide_eq_true c2]; rfl)
            rw [e9] at hG
            exact hI4_1 hc _ hw hm hG (hL322.sel [0, 1, 2, 3, 4, 5] rfl)
          · have c2 : ¬ (¬ (m 67 3 : Int) = (5 + k : Int)) := c2
            refine f_aln 4 rfl hL rfl ?_
            refine f_s [fi (0), .ref 55] rfl rfl ?_
            refine f_iln 2 rfl hL rfl ?_
            refine f_aln 4 rfl hL rfl ?_
            refine m_gfr so55 rfl hw rfl (by decide) ?_
            refine f_il 0 rfl hL rfl ?_
            refine m_ia sa68 (m 68 3) rfl hw hm (by omega) (by omega) (by decide) rfl ?_
            refine m_k1 (t90_0 (p := 1) (h := m 68 3) (by decide) (by decide) (hR 68 3) (fv := m 58 1) rfl (hR 58 _) (uv := m 59 1) rfl (hR 59 _)) hw hm rfl rfl rfl (m_ar so55 hw rfl) rfl (fun hc47 hw47 hm47 => ?_)
            have c2 : m 67 3 = 5 + k := by omega
            refine f_if rfl (bI_r _) (fun c3 => ?_) (fun c3 => ?_)
            · have c3 : (bI (decide (¬ iA (iR (m 61 16) (1)) (1) = 1 ∧ m 58 1 ≤ m 68 3 ∧ m 68 3 ≤ m 59 1)) : Int) = (0 : Int) := c3
              have c3 : ¬ (¬ iA (iR (m 61 16) (1)) (1) = 1 ∧ m 58 1 ≤ m 68 3 ∧ m 68 3 ≤ m 59 1) := bI_f c3
              refine f_s [fi (0)] rfl rfl ?_
              refine f_ist [(4, fi (0)), (5, fi (3)), (3, fi (1)), (2, fi (b)), (0, .ref 55), (1, fi (k))] rfl (by decide) hL rfl (fun L323 hL323 => ?_)
              refine f_inc 1 [(5, fi (4)), (4, fi (0)), (3, fi (1)), (2, fi (b)), (0, .ref 55), (1, fi (k))] rfl (by decide) hL323 rfl rfl (fun L324 hL324 => ?_)
              refine f_goto rfl ?_
              have e9 : wmE m k 1 1 3 true = false := (if_pos (by omega)).trans (by rw [decide_eq_false (fun z => z c2), decide_eq_false c3]; rfl)
              rw [e9] at hG
              exact hI4_0 hc47 _ hw47 hm47 hG (hL324.sel [0, 1, 2, 3, 4, 5] rfl)
            · have c3 : ¬ ((bI (decide (¬ iA (iR (m 61 16) (1)) (1) = 1 ∧ m 58 1 ≤ m 68 3 ∧ m 68 3 ≤ m 59 1)) : Int) = (0 : Int)) := c3
              have c3 : ¬ iA (iR (m 61 16) (1)) (1) = 1 ∧ m 58 1 ≤ m 68 3 ∧ m 68 3 ≤ m 59 1 := bI_t c3
              refine f_aln 4 rfl hL rfl ?_
              refine f_iln 2 rfl hL rfl ?_
              refine f_aln 4 rfl hL rfl ?_
              refine m_gfr so55 rfl hw47 rfl (by decide) ?_
              refine f_il 0 rfl hL rfl ?_
              refine m_ia sa68 (m 68 3) rfl hw47 hm47 (by omega) (by omega) (by decide) rfl ?_
              refine m_k1 (show h_M 159 [.ref 55, fi (1), fi (m 68 3)] m (some (fi (bI (sn m 1 (m 68 3))))) m from se_sn m 1 (m 68 3) ▸ t159 ht (by decide) (hR 68 3)) hw47 hm47 rfl rfl rfl (m_ar so55 hw47 rfl) rfl (fun hc48 hw48 hm48 => ?_)
              refine f_if rfl (bI_r _) (fun c4 => ?_) (fun c4 => ?_)
              · have c4 : ¬ (bI (sn m 1 (m 68 3)) : Int) = (0 : Int) := c4
                refine f_s [fi (0)] rfl rfl ?_
                refine f_ist [(4, fi (0)), (5, fi (3)), (3, fi (1)), (2, fi (b)), (0, .ref 55), (1, fi (k))] rfl (by decide) hL rfl (fun L325 hL325 => ?_)
                refine f_inc 1 [(5, fi (4)), (4, fi (0)), (3, fi (1)), (2, fi (b)), (0, .ref 55), (1, fi (k))] rfl (by decide) hL325 rfl rfl (fun L326 hL326 => ?_)
                refine f_goto rfl ?_
                have e9 : wmE m k 1 1 3 true = false := (if_pos (by omega)).trans (by rw [decide_eq_false (fun z => z c2), decide_eq_true c3, bI1 c4]; rfl)
                rw [e9] at hG
                exact hI4_0 hc48 _ hw48 hm48 hG (hL326.sel [0, 1, 2, 3, 4, 5] rfl)
              · have c4 : ¬ (¬ (bI (sn m 1 (m 68 3)) : Int) = (0 : Int)) := c4
                refine f_s [fi (1)] rfl rfl ?_
                refine f_goto rfl ?_
                refine f_ist [(4, fi (1)), (5, fi (3)), (3, fi (1)), (2, fi (b)), (0, .ref 55), (1, fi (k))] rfl (by decide) hL rfl (fun L327 hL327 => ?_)
                refine f_inc 1 [(5, fi (4)), (4, fi (1)), (3, fi (1)), (2, fi (b)), (0, .ref 55), (1, fi (k))] rfl (by decide) hL327 rfl rfl (fun L328 hL328 => ?_)
                refine f_goto rfl ?_
                have e9 : wmE m k 1 1 3 true = true := (if_pos (by omega)).trans (by rw [decide_eq_false (fun z => z c2), decide_eq_true c3, bI0 (Classical.byContradiction c4)]; rfl)
                rw [e9] at hG
                exact hI4_1 hc48 _ hw48 hm48 hG (hL328.sel [0, 1, 2, 3, 4, 5] rfl)
      have hI2_0 : ∀ (hc : ev_H) (L : ev_L), y_in yGw hc → gi hc = m → wmE m k 1 1 5 (wmE m k 1 1 4 (wmE m k 1 1 3 (wmE m k 1 1 2 (false)))) = wmB m k 1 1 → f_L L [(5, fi (2)), (4, fi (0)), (3, fi (1)), (2, fi (b)), (0, .ref 55), (1, fi (k))] → x_W none (1, 0, 6, 1, 11, 3, 66, 0, 0, ev_t160) 54 L [] hc 0 0 (fun r' h' => r' = some (fi (wm1 m k 4 4 (iS 1 4) (wm1 m k 3 3 (iS 1 3) (wm1 m k 2 2 (iS 1 2) (wm1 m k 1 1 (iS 1 1) (b)))))) ∧ y_in yGw h' ∧ gi h' = m) := fun hc L hw hm hG hL => by
        refine f_il 0 rfl hL rfl ?_
        refine f_aln 4 rfl hL rfl ?_
        refine m_gfi so55 (m 55 21) rfl hw hm rfl rfl ?_
        refine f_ic rfl (by decide) (by omega) (fun ci => ?_) (fun ci => ?_)
        · have ci : (m 55 21 : Int) ≤ (2 : Int) := ci
          have e8 : wmE m k 1 1 5 (wmE m k 1 1 4 (wmE m k 1 1 3 (wmE m k 1 1 2 (false)))) = false := by unfold wmE; rw [if_neg (by omega), if_neg (by omega), if_neg (by omega), if_neg (by omega)]
          rw [e8] at hG
          refine f_iln 3 rfl hL rfl ?_
          refine f_il 1 rfl hL rfl ?_
          refine f_if rfl (by decide) (fun _ => ?_) (fun c_9 => absurd (show (0 : Int) = (0 : Int) from (by decide)) c_9)
          refine f_s [fi (0), fi (b)] rfl rfl ?_
          refine b_ior rfl ?_
          refine f_istn [(2, fi (iO (b) (0))), (5, fi (2)), (4, fi (0)), (3, fi (1)), (0, .ref 55), (1, fi (k))] rfl (by decide) hL rfl (fun L329 hL329 => ?_)
          refine f_inc 3 [(3, fi (2)), (2, fi (iO (b) (0))), (5, fi (2)), (4, fi (0)), (0, .ref 55), (1, fi (k))] rfl (by decide) hL329 rfl rfl (fun L330 hL330 => ?_)
          refine f_goto rfl ?_
          have e9 : wm1 m k 1 1 (iS 1 1) b = iO (b) (0) := (if_pos pp).trans (by rw [← hG, if_neg (by decide)])
          rw [e9]
          exact hK2 hc _ _ hw hm (hL330.sel [0, 1, 4, 5] rfl)
        · have ci : ¬ ((m 55 21 : Int) ≤ (2 : Int)) := ci
          refine f_il 1 rfl hL rfl ?_
          refine f_if rfl (by decide) (fun _ => ?_) (fun c_9 => absurd (show (0 : Int) = (0 : Int) from (by decide)) c_9)
          refine f_s [fi (0)] rfl rfl ?_
          refine f_ist [(4, fi (0)), (5, fi (2)), (3, fi (1)), (2, fi (b)), (0, .ref 55), (1, fi (k))] rfl (by decide) hL rfl (fun L331 hL331 => ?_)
          refine f_inc 1 [(5, fi (3)), (4, fi (0)), (3, fi (1)), (2, fi (b)), (0, .ref 55), (1, fi (k))] rfl (by decide) hL331 rfl rfl (fun L332 hL332 => ?_)
          refine f_goto rfl ?_
          have e9 : wmE m k 1 1 2 false = false := (if_pos (by omega)).trans (by rfl)
          rw [e9] at hG
          exact hI3_0 hc _ hw hm hG (hL332.sel [0, 1, 2, 3, 4, 5] rfl)
      have hI2_1 : ∀ (hc : ev_H) (L : ev_L), y_in yGw hc → gi hc = m → wmE m k 1 1 5 (wmE m k 1 1 4 (wmE m k 1 1 3 (wmE m k 1 1 2 (true)))) = wmB m k 1 1 → f_L L [(5, fi (2)), (4, fi (1)), (3, fi (1)), (2, fi (b)), (0, .ref 55), (1, fi (k))] → x_W none (1, 0, 6, 1, 11, 3, 66, 0, 0, ev_t160) 54 L [] hc 0 0 (fun r' h' => r' = some (fi (wm1 m k 4 4 (iS 1 4) (wm1 m k 3 3 (iS 1 3) (wm1 m k 2 2 (iS 1 2) (wm1 m k 1 1 (iS 1 1) (b)))))) ∧ y_in yGw h' ∧ gi h' = m) := fun hc L hw hm hG hL => by
        refine f_il 0 rfl hL rfl ?_
        refine f_aln 4 rfl hL rfl ?_
        refine m_gfi so55 (m 55 21) rfl hw hm rfl rfl ?_
        refine f_ic rfl (by decide) (by omega) (fun ci => ?_) (fun ci => ?_)
        · have ci : (m 55 21 : Int) ≤ (2 : Int) := ci
          have e8 : wmE m k 1 1 5 (wmE m k 1 1 4 (wmE m k 1 1 3 (wmE m k 1 1 2 (true)))) = true := by unfold wmE; rw [if_neg (by omega), if_neg (by omega), if_neg (by omega), if_neg (by omega)]
          rw [e8] at hG
          refine f_iln 3 rfl hL rfl ?_
          refine f_il 1 rfl hL rfl ?_
          refine f_if rfl (by decide) (fun c_9 => absurd (show (1 : Int) = (0 : Int) from c_9) (by decide)) (fun _ => ?_)
          refine f_s [fi (1), fi (b)] rfl rfl ?_
          refine f_iln 2 rfl hL rfl ?_
          refine b_ishl rfl ?_
          refine f_goto rfl ?_
          refine b_ior rfl ?_
          refine f_istn [(2, fi (iO (b) (iS (1) (1)))), (5, fi (2)), (4, fi (1)), (3, fi (1)), (0, .ref 55), (1, fi (k))] rfl (by decide) hL rfl (fun L333 hL333 => ?_)
          refine f_inc 3 [(3, fi (2)), (2, fi (iO (b) (iS (1) (1)))), (5, fi (2)), (4, fi (1)), (0, .ref 55), (1, fi (k))] rfl (by decide) hL333 rfl rfl (fun L334 hL334 => ?_)
          refine f_goto rfl ?_
          have e9 : wm1 m k 1 1 (iS 1 1) b = iO (b) (iS (1) (1)) := (if_pos pp).trans (by rw [← hG, if_pos rfl])
          rw [e9]
          exact hK2 hc _ _ hw hm (hL334.sel [0, 1, 4, 5] rfl)
        · have ci : ¬ ((m 55 21 : Int) ≤ (2 : Int)) := ci
          refine f_il 1 rfl hL rfl ?_
          refine f_if rfl (by decide) (fun c_9 => absurd (show (1 : Int) = (0 : Int) from c_9) (by decide)) (fun _ => ?_)
          refine f_aln 4 rfl hL rfl ?_
          refine m_gfr so55 rfl hw rfl (by decide) ?_
          refine f_il 0 rfl hL rfl ?_
          refine m_ia sa67 (m 67 2) rfl hw hm (by omega) (by omega) (by decide) rfl ?_
          refine f_s [fi (5), fi (m 67 2)] rfl rfl ?_
          refine f_iln 5 rfl hL rfl ?_
          refine f_iadd rfl ?_
          refine f_ic rfl (hR 67 2) (by omega) (fun c2 => ?_) (fun c2 => ?_)
          · have c2 : ¬ (m 67 2 : Int) = (5 + k : Int) := c2
            refine f_s [fi (1)] rfl rfl ?_
            refine f_goto rfl ?_
            refine f_ist [(4, fi (1)), (5, fi (2)), (3, fi (1)), (2, fi (b)), (0, .ref 55), (1, fi (k))] rfl (by decide) hL rfl (fun L335 hL335 => ?_)
            refine f_inc 1 [(5, fi (3)), (4, fi (1)), (3, fi (1)), (2, fi (b)), (0, .ref 55), (1, fi (k))] rfl (by decide) hL335 rfl rfl (fun L336 hL336 => ?_)
            refine f_goto rfl ?_
            have e9 : wmE m k 1 1 2 true = true := (if_pos (by omega)).trans (by rw [decide_eq_true c2]; rfl)
            rw [e9] at hG
            exact hI3_1 hc _ hw hm hG (hL336.sel [0, 1, 2, 3, 4, 5] rfl)
          · have c2 : ¬ (¬ (m 67 2 : Int) = (5 + k : Int)) := c2
            refine f_aln 4 rfl hL rfl ?_
            refine f_s [fi (0), .ref 55] rfl rfl ?_
            refine f_iln 2 rfl hL rfl ?_
            refine f_aln 4 rfl hL rfl ?_
            refine m_gfr so55 rfl hw rfl (by decide) ?_
            refine f_il 0 rfl hL rfl ?_
            refine m_ia sa68 (m 68 2) rfl hw hm (by omega) (by omega) (by decide) rfl ?_
            refine m_k1 (t90_0 (p := 1) (h := m 68 2) (by decide) (by decide) (hR 68 2) (fv := m 58 1) rfl (hR 58 _) (uv := m 59 1) rfl (hR 59 _)) hw hm rfl rfl rfl (m_ar so55 hw rfl) rfl (fun hc49 hw49 hm49 => ?_)
            have c2 : m 67 2 = 5 + k := by omega
            refine f_if rfl (bI_r _) (fun c3 => ?_) (fun c3 => ?_)
            · have c3 : (bI (decide (¬ iA (iR (m 61 16) (1)) (1) = 1 ∧ m 58 1 ≤ m 68 2 ∧ m 68 2 ≤ m 59 1)) : Int) = (0 : Int) := c3
              have c3 : ¬ (¬ iA (iR (m 61 16) (1)) (1) = 1 ∧ m 58 1 ≤ m 68 2 ∧ m 68 2 ≤ m 59 1) := bI_f c3
              refine f_s [fi (0)] rfl rfl ?_
              refine f_ist [(4, fi (0)), (5, fi (2)), (3, fi (1)), (2, fi (b)), (0, .ref 55), (1, fi (k))] rfl (by decide) hL rfl (fun L337 hL337 => ?_)
              refine f_inc 1 [(5, fi (3)), (4, fi (0)), (3, fi (1)), (2, fi (b)), (0, .ref 55), (1, fi (k))] rfl (by decide) hL337 rfl rfl (fun L338 hL338 => ?_)
              refine f_goto rfl ?_
              have e9 : wmE m k 1 1 2 true = false := (if_pos (by omega)).trans (by rw [decide_eq_false (fun z => z c2), decide_eq_false c3]; rfl)
              rw [e9] at hG
              exact hI3_0 hc49 _ hw49 hm49 hG (hL338.sel [0, 1, 2, 3, 4, 5] rfl)
            · have c3 : ¬ ((bI (decide (¬ iA (iR (m 61 16) (1)) (1) = 1 ∧ m 58 1 ≤ m 68 2 ∧ m 68 2 ≤ m 59 1)) : Int) = (0 : Int)) := c3
              have c3 : ¬ iA (iR (m 61 16) (1)) (1) = 1 ∧ m 58 1 ≤ m 68 2 ∧ m 68 2 ≤ m 59 1 := bI_t c3
              refine f_aln 4 rfl hL rfl ?_
              refine f_iln 2 rfl hL rfl ?_
              refine f_aln 4 rfl hL rfl ?_
              refine m_gfr so55 rfl hw49 rfl (by decide) ?_
              refine f_il 0 rfl hL rfl ?_
              refine m_ia sa68 (m 68 2) rfl hw49 hm49 (by omega) (by omega) (by decide) rfl ?_
              refine m_k1 (show h_M 159 [.ref 55, fi (1), fi (m 68 2)] m (some (fi (bI (sn m 1 (m 68 2))))) m from se_sn m 1 (m 68 2) ▸ t159 ht (by decide) (hR 68 2)) hw49 hm49 rfl rfl rfl (m_ar so55 hw49 rfl) rfl (fun hc50 hw50 hm50 => ?_)
              refine f_if rfl (bI_r _) (fun c4 => ?_) (fun c4 => ?_)
              · have c4 : ¬ (bI (sn m 1 (m 68 2)) : Int) = (0 : Int) := c4
                refine f_s [fi (0)] rfl rfl ?_
                refine f_ist [(4, fi (0)), (5, fi (2)), (3, fi (1)), (2, fi (b)), (0, .ref 55), (1, fi (k))] rfl (by decide) hL rfl (fun L339 hL339 => ?_)
                refine f_inc 1 [(5, fi (3)), (4, fi (0)), (3, fi (1)), (2, fi (b)), (0, .ref 55), (1, fi (k))] rfl (by decide) hL339 rfl rfl (fun L340 hL340 => ?_)
                refine f_goto rfl ?_
                have e9 : wmE m k 1 1 2 true = false := (if_pos (by omega)).trans (by rw [decide_eq_false (fun z => z c2), decide_eq_true c3, bI1 c4]; rfl)
                rw [e9] at hG
                exact hI3_0 hc50 _ hw50 hm50 hG (hL340.sel [0, 1, 2, 3, 4, 5] rfl)
              · have c4 : ¬ (¬ (bI (sn m 1 (m 68 2)) : Int) = (0 : Int)) := c4
                refine f_s [fi (1)] rfl rfl ?_
                refine f_goto rfl ?_
                refine f_ist [(4, fi (1)), (5, fi (2)), (3, fi (1)), (2, fi (b)), (0, .ref 55), (1, fi (k))] rfl (by decide) hL rfl (fun L341 hL341 => ?_)
                refine f_inc 1 [(5, fi (3)), (4, fi (1)), (3, fi (1)), (2, fi (b)), (0, .ref 55), (1, fi (k))] rfl (by decide) hL341 rfl rfl (fun L342 hL342 => ?_)
                refine f_goto rfl ?_
                have e9 : wmE m k 1 1 2 true = true := (if_pos (by omega)).trans (by rw [decide_eq_false (fun z => z c2), decide_eq_true c3, bI0 (Classical.byContradiction c4)]; rfl)
                rw [e9] at hG
                exact hI3_1 hc50 _ hw50 hm50 hG (hL342.sel [0, 1, 2, 3, 4, 5] rfl)
      have hI1_0 : ∀ (hc : ev_H) (L : ev_L), y_in yGw hc → gi hc = m → wmE m k 1 1 5 (wmE m k 1 1 4 (wmE m k 1 1 3 (wmE m k 1 1 2 (wmE m k 1 1 1 (false))))) = wmB m k 1 1 → f_L L [(5, fi (1)), (4, fi (0)), (3, fi (1)), (2, fi (b)), (0, .ref 55), (1, fi (k))] → x_W none (1, 0, 6, 1, 11, 3, 66, 0, 0, ev_t160) 54 L [] hc 0 0 (fun r' h' => r' = some (fi (wm1 m k 4 4 (iS 1 4) (wm1 m k 3 3 (iS 1 3) (wm1 m k 2 2 (iS 1 2) (wm1 m k 1 1 (iS 1 1) (b)))))) ∧ y_in yGw h' ∧ gi h' = m) := fun hc L hw hm hG hL => by
        refine f_il 0 rfl hL rfl ?_
        refine f_aln 4 rfl hL rfl ?_
        refine m_gfi so55 (m 55 21) rfl hw hm rfl rfl ?_
        refine f_ic rfl (by decide) (by omega) (fun ci => ?_) (fun ci => ?_)
        · have ci : (m 55 21 : Int) ≤ (1 : Int) := ci
          have e8 : wmE m k 1 1 5 (wmE m k 1 1 4 (wmE m k 1 1 3 (wmE m k 1 1 2 (wmE m k 1 1 1 (false))))) = false := by unfold wmE; rw [if_neg (by omega), if_neg (by omega), if_neg (by omega), if_neg (by omega), if_neg (by omega)]
          rw [e8] at hG
          refine f_iln 3 rfl hL rfl ?_
          refine f_il 1 rfl hL rfl ?_
          refine f_if rfl (by decide) (fun _ => ?_) (fun c_9 => absurd (show (0 : Int) = (0 : Int) from (by decide)) c_9)
          refine f_s [fi (0), fi (b)] rfl rfl ?_
          refine b_ior rfl ?_
          refine f_istn [(2, fi (iO (b) (0))), (5, fi (1)), (4, fi (0)), (3, fi (1)), (0, .ref 55), (1, fi (k))] rfl (by decide) hL rfl (fun L343 hL343 => ?_)
          refine f_inc 3 [(3, fi (2)), (2, fi (iO (b) (0))), (5, fi (1)), (4, fi (0)), (0, .ref 55), (1, fi (k))] rfl (by decide) hL343 rfl rfl (fun L344 hL344 => ?_)
          refine f_goto rfl ?_
          have e9 : wm1 m k 1 1 (iS 1 1) b = iO (b) (0) := (if_pos pp).trans (by rw [← hG, if_neg (by decide)])
          rw [e9]
          exact hK2 hc _ _ hw hm (hL344.sel [0, 1, 4, 5] rfl)
        · have ci : ¬ ((m 55 21 : Int) ≤ (1 : Int)) := ci
          refine f_il 1 rfl hL rfl ?_
          refine f_if rfl (by decide) (fun _ => ?_) (fun c_9 => absurd (show (0 : Int) = (0 : Int) from (by decide)) c_9)
          refine f_s [fi (0)] rfl rfl ?_
          refine f_ist [(4, fi (0)), (5, fi (1)), (3, fi (1)), (2, fi (b)), (0, .ref 55), (1, fi (k))] rfl (by decide) hL rfl (fun L345 hL345 => ?_)
          refine f_inc 1 [(5, fi (2)), (4, fi (0)), (3, fi (1)), (2, fi (b)), (0, .ref 55), (1, fi (k))] rfl (by decide) hL345 rfl rfl (fun L346 hL346 => ?_)
          refine f_goto rfl ?_
          have e9 : wmE m k 1 1 1 false = false := (if_pos (by omega)).trans (by rfl)
          rw [e9] at hG
          exact hI2_0 hc _ hw hm hG (hL346.sel [0, 1, 2, 3, 4, 5] rfl)
      have hI1_1 : ∀ (hc : ev_H) (L : ev_L), y_in yGw hc → gi hc = m → wmE m k 1 1 5 (wmE m k 1 1 4 (wmE m k 1 1 3 (wmE m k 1 1 2 (wmE m k 1 1 1 (true))))) = wmB m k 1 1 → f_L L [(5, fi (1)), (4, fi (1)), (3, fi (1)), (2, fi (b)), (0, .ref 55), (1, fi (k))] → x_W none (1, 0, 6, 1, 11, 3, 66, 0, 0, ev_t160) 54 L [] hc 0 0 (fun r' h' => r' = some (fi (wm1 m k 4 4 (iS 1 4) (wm1 m k 3 3 (iS 1 3) (wm1 m k 2 2 (iS 1 2) (wm1 m k 1 1 (iS 1 1) (b)))))) ∧ y_in yGw h' ∧ gi h' = m) := fun hc L hw hm hG hL => by
        refine f_il 0 rfl hL rfl ?_
        refine f_aln 4 rfl hL rfl ?_
        refine m_gfi so55 (m 55 21) rfl hw hm rfl rfl ?_
        refine f_ic rfl (by decide) (by omega) (fun ci => ?_) (fun ci => ?_)
        · have ci : (m 55 21 : Int) ≤ (1 : Int) := ci
          have e8 : wmE m k 1 1 5 (wmE m k 1 1 4 (wmE m k 1 1 3 (wmE m k 1 1 2 (wmE m k 1 1 1 (true))))) = true := by unfold wmE; rw [if_neg (by omega), if_neg (by omega), if_neg (by omega), if_neg (by omega), if_neg (by omega)]
          rw [e8] at hG
          refine f_iln 3 rfl hL rfl ?_
          refine f_il 1 rfl hL rfl ?_
          refine f_if rfl (by decide) (fun c_9 => absurd (show (1 : Int) = (0 : Int) from c_9) (by decide)) (fun _ => ?_)
          refine f_s [fi (1), fi (b)] rfl rfl ?_
          refine f_iln 2 rfl hL rfl ?_
          refine b_ishl rfl ?_
          refine f_goto rfl ?_
          refine b_ior rfl ?_
          refine f_istn [(2, fi (iO (b) (iS (1) (1)))), (5, fi (1)), (4, fi (1)), (3, fi (1)), (0, .ref 55), (1, fi (k))] rfl (by decide) hL rfl (fun L347 hL347 => ?_)
          refine f_inc 3 [(3, fi (2)), (2, fi (iO (b) (iS (1) (1)))), (5, fi (1)), (4, fi (1)), (0, .ref 55), (1, fi (k))] rfl (by decide) hL347 rfl rfl (fun L348 hL348 => ?_)
          refine f_goto rfl ?_
          have e9 : wm1 m k 1 1 (iS 1 1) b = iO (b) (iS (1) (1)) := (if_pos pp).trans (by rw [← hG, if_pos rfl])
          rw [e9]
          exact hK2 hc _ _ hw hm (hL348.sel [0, 1, 4, 5] rfl)
        · have ci : ¬ ((m 55 21 : Int) ≤ (1 : Int)) := ci
          refine f_il 1 rfl hL rfl ?_
          refine f_if rfl (by decide) (fun c_9 => absurd (show (1 : Int) = (0 : Int) from c_9) (by decide)) (fun _ => ?_)
          refine f_aln 4 rfl hL rfl ?_
          refine m_gfr so55 rfl hw rfl (by decide) ?_
          refine f_il 0 rfl hL rfl ?_
          refine m_ia sa67 (m 67 1) rfl hw hm (by omega) (by omega) (by decide) rfl ?_
          refine f_s [fi (5), fi (m 67 1)] rfl rfl ?_
          refine f_iln 5 rfl hL rfl ?_
          refine f_iadd rfl ?_
          refine f_ic rfl (hR 67 1) (by omega) (fun c2 => ?_) (fun c2 => ?_)
          · have c2 : ¬ (m 67 1 : Int) = (5 + k : Int) := c2
            refine f_s [fi (1)] rfl rfl ?_
            refine f_goto rfl ?_
            refine f_ist [(4, fi (1)), (5, fi (1)), (3, fi (1)), (2, fi (b)), (0, .ref 55), (1, fi (k))] rfl (by decide) hL rfl (fun L349 hL349 => ?_)
            refine f_inc 1 [(5, fi (2)), (4, fi (1)), (3, fi (1)), (2, fi (b)), (0, .ref 55), (1, fi (k))] rfl (by decide) hL349 rfl rfl (fun L350 hL350 => ?_)
            refine f_goto rfl ?_
            have e9 : wmE m k 1 1 1 true = true := (if_pos (by omega)).trans (by rw [decide_eq_true c2]; rfl)
            rw [e9] at hG
            exact hI2_1 hc _ hw hm hG (hL350.sel [0, 1, 2, 3, 4, 5] rfl)
          · have c2 : ¬ (¬ (m 67 1 : Int) = (5 + k : Int)) := c2
            refine f_aln 4 rfl hL rfl ?_
            refine f_s [fi (0), .ref 55] rfl rfl ?_
            refine f_iln 2 rfl hL rfl ?_
            refine f_aln 4 rfl hL rfl ?_
            refine m_gfr so55 rfl hw rfl (by decide) ?_
            refine f_il 0 rfl hL rfl ?_
            refine m_ia sa68 (m 68 1) rfl hw hm (by omega) (by omega) (by decide) rfl ?_
            refine m_k1 (t90_0 (p := 1) (h := m 68 1) (by decide) (by decide) (hR 68 1) (fv := m 58 1) rfl (hR 58 _) (uv := m 59 1) rfl (hR 59 _)) hw hm rfl rfl rfl (m_ar so55 hw rfl) rfl (fun hc51 hw51 hm51 => ?_)
            have c2 : m 67 1 = 5 + k := by omega
            refine f_if rfl (bI_r _) (fun c3 => ?_) (fun c3 => ?_)
            · have c3 : (bI (decide (¬ iA (iR (m 61 16) (1)) (1) = 1 ∧ m 58 1 ≤ m 68 1 ∧ m 68 1 ≤ m 59 1)) : Int) = (0 : Int) := c3
              have c3 : ¬ (¬ iA (iR (m 61 16) (1)) (1) = 1 ∧ m 58 1 ≤ m 68 1 ∧ m 68 1 ≤ m 59 1) := bI_f c3
              refine f_s [fi (0)] rfl rfl ?_
              refine f_ist [(4, fi (0)), (5, fi (1)), (3, fi (1)), (2, fi (b)), (0, .ref 55), (1, fi (k))] rfl (by decide) hL rfl (fun L351 hL351 => ?_)
              refine f_inc 1 [(5, fi (2)), (4, fi (0)), (3, fi (1)), (2, fi (b)), (0, .ref 55), (1, fi (k))] rfl (by decide) hL351 rfl rfl (fun L352 hL352 => ?_)
              refine f_goto rfl ?_
              have e9 : wmE m k 1 1 1 true = false := (if_pos (by omega)).trans (by rw [decide_eq_false (fun z => z c2), decide_eq_false c3]; rfl)
              rw [e9] at hG
              exact hI2_0 hc51 _ hw51 hm51 hG (hL352.sel [0, 1, 2, 3, 4, 5] rfl)
            · have c3 : ¬ ((bI (decide (¬ iA (iR (m 61 16) (1)) (1) = 1 ∧ m 58 1 ≤ m 68 1 ∧ m 68 1 ≤ m 59 1)) : Int) = (0 : Int)) := c3
              have c3 : ¬ iA (iR (m 61 16) (1)) (1) = 1 ∧ m 58 1 ≤ m 68 1 ∧ m 68 1 ≤ m 59 1 := bI_t c3
              refine f_aln 4 rfl hL rfl ?_
              refine f_iln 2 rfl hL rfl ?_
              refine f_aln 4 rfl hL rfl ?_
              refine m_gfr so55 rfl hw51 rfl (by decide) ?_
              refine f_il 0 rfl hL rfl ?_
              refine m_ia sa68 (m 68 1) rfl hw51 hm51 (by omega) (by omega) (by decide) rfl ?_
              refine m_k1 (show h_M 159 [.ref 55, fi (1), fi (m 68 1)] m (some (fi (bI (sn m 1 (m 68 1))))) m from se_sn m 1 (m 68 1) ▸ t159 ht (by decide) (hR 68 1)) hw51 hm51 rfl rfl rfl (m_ar so55 hw51 rfl) rfl (fun hc52 hw52 hm52 => ?_)
              refine f_if rfl (bI_r _) (fun c4 => ?_) (fun c4 => ?_)
              · have c4 : ¬ (bI (sn m 1 (m 68 1)) : Int) = (0 : Int) := c4
                refine f_s [fi (0)] rfl rfl ?_
                refine f_ist [(4, fi (0)), (5, fi (1)), (3, fi (1)), (2, fi (b)), (0, .ref 55), (1, fi (k))] rfl (by decide) hL rfl (fun L353 hL353 => ?_)
                refine f_inc 1 [(5, fi (2)), (4, fi (0)), (3, fi (1)), (2, fi (b)), (0, .ref 55), (1, fi (k))] rfl (by decide) hL353 rfl rfl (fun L354 hL354 => ?_)
                refine f_goto rfl ?_
                have e9 : wmE m k 1 1 1 true = false := (if_pos (by omega)).trans (by rw [decide_eq_false (fun z => z c2), decide_eq_true c3, bI1 c4]; rfl)
                rw [e9] at hG
                exact hI2_0 hc52 _ hw52 hm52 hG (hL354.sel [0, 1, 2, 3, 4, 5] rfl)
              · have c4 : ¬ (¬ (bI (sn m 1 (m 68 1)) : Int) = (0 : Int)) := c4
                refine f_s [fi (1)] rfl rfl ?_
                refine f_goto rfl ?_
                refine f_ist [(4, fi (1)), (5, fi (1)), (3, fi (1)), (2, fi (b)), (0, .ref 55), (1, fi (k))] rfl (by decide) hL rfl (fun L355 hL355 => ?_)
                refine f_inc 1 [(5, fi (2)), (4, fi (1)), (3, fi (1)), (2, fi (b)), (0, .ref 55), (1, fi (k))] rfl (by decide) hL355 rfl rfl (fun L356 hL356 => ?_)
                refine f_goto rfl ?_
                have e9 : wmE m k 1 1 1 true = true := (if_pos (by omega)).trans (by rw [decide_eq_false (fun z => z c2), decide_eq_true c3, bI0 (Classical.byContradiction c4)]; rfl)
                rw [e9] at hG
                exact hI2_1 hc52 _ hw52 hm52 hG (hL356.sel [0, 1, 2, 3, 4, 5] rfl)
      have hI0_0 : ∀ (hc : ev_H) (L : ev_L), y_in yGw hc → gi hc = m → wmE m k 1 1 5 (wmE m k 1 1 4 (wmE m k 1 1 3 (wmE m k 1 1 2 (wmE m k 1 1 1 (wmE m k 1 1 0 (false)))))) = wmB m k 1 1 → f_L L [(5, fi (0)), (4, fi (0)), (3, fi (1)), (2, fi (b)), (0, .ref 55), (1, fi (k))] → x_W none (1, 0, 6, 1, 11, 3, 66, 0, 0, ev_t160) 54 L [] hc 0 0 (fun r' h' => r' = some (fi (wm1 m k 4 4 (iS 1 4) (wm1 m k 3 3 (iS 1 3) (wm1 m k 2 2 (iS 1 2) (wm1 m k 1 1 (iS 1 1) (b)))))) ∧ y_in yGw h' ∧ gi h' = m) := fun hc L hw hm hG hL => by
        refine f_il 0 rfl hL rfl ?_
        refine f_aln 4 rfl hL rfl ?_
        refine m_gfi so55 (m 55 21) rfl hw hm rfl rfl ?_
        refine f_ic rfl (by decide) (by omega) (fun ci => ?_) (fun ci => ?_)
        · have ci : (m 55 21 : Int) ≤ (0 : Int) := ci
          have e8 : wmE m k 1 1 5 (wmE m k 1 1 4 (wmE m k 1 1 3 (wmE m k 1 1 2 (wmE m k 1 1 1 (wmE m k 1 1 0 (false)))))) = false := by unfold wmE; rw [if_neg (by omega), if_neg (by omega), if_neg (by omega), if_neg (by omega), if_neg (by omega), if_neg (by omega)]
          rw [e8] at hG
          refine f_iln 3 rfl hL rfl ?_
          refine f_il 1 rfl hL rfl ?_
          refine f_if rfl (by decide) (fun _ => ?_) (fun c_9 => absurd (show (0 : Int) = (0 : Int) from (by decide)) c_9)
          refine f_s [fi (0), fi (b)] rfl rfl ?_
          refine b_ior rfl ?_
          refine f_istn [(2, fi (iO (b) (0))), (5, fi (0)), (4, fi (0)), (3, fi (1)), (0, .ref 55), (1, fi (k))] rfl (by decide) hL rfl (fun L357 hL357 => ?_)
          refine f_inc 3 [(3, fi (2)), (2, fi (iO (b) (0))), (5, fi (0)), (4, fi (0)), (0, .ref 55), (1, fi (k))] rfl (by decide) hL357 rfl rfl (fun L358 hL358 => ?_)
          refine f_goto rfl ?_
          have e9 : wm1 m k 1 1 (iS 1 1) b = iO (b) (0) := (if_pos pp).trans (by rw [← hG, if_neg (by decide)])
          rw [e9]
          exact hK2 hc _ _ hw hm (hL358.sel [0, 1, 4, 5] rfl)
        · have ci : ¬ ((m 55 21 : Int) ≤ (0 : Int)) := ci
          refine f_il 1 rfl hL rfl ?_
          refine f_if rfl (by decide) (fun _ => ?_) (fun c_9 => absurd (show (0 : Int) = (0 : Int) from (by decide)) c_9)
          refine f_s [fi (0)] rfl rfl ?_
          refine f_ist [(4, fi (0)), (5, fi (0)), (3, fi (1)), (2, fi (b)), (0, .ref 55), (1, fi (k))] rfl (by decide) hL rfl (fun L359 hL359 => ?_)
          refine f_inc 1 [(5, fi (1)), (4, fi (0)), (3, fi (1)), (2, fi (b)), (0, .ref 55), (1, fi (k))] rfl (by decide) hL359 rfl rfl (fun L360 hL360 => ?_)
          refine f_goto rfl ?_
          have e9 : wmE m k 1 1 0 false = false := (if_pos (by omega)).trans (by rfl)
          rw [e9] at hG
          exact hI1_0 hc _ hw hm hG (hL360.sel [0, 1, 2, 3, 4, 5] rfl)
      have hI0_1 : ∀ (hc : ev_H) (L : ev_L), y_in yGw hc → gi hc = m → wmE m k 1 1 5 (wmE m k 1 1 4 (wmE m k 1 1 3 (wmE m k 1 1 2 (wmE m k 1 1 1 (wmE m k 1 1 0 (true)))))) = wmB m k 1 1 → f_L L [(5, fi (0)), (4, fi (1)), (3, fi (1)), (2, fi (b)), (0, .ref 55), (1, fi (k))] → x_W none (1, 0, 6, 1, 11, 3, 66, 0, 0, ev_t160) 54 L [] hc 0 0 (fun r' h' => r' = some (fi (wm1 m k 4 4 (iS 1 4) (wm1 m k 3 3 (iS 1 3) (wm1 m k 2 2 (iS 1 2) (wm1 m k 1 1 (iS 1 1) (b)))))) ∧ y_in yGw h' ∧ gi h' = m) := fun hc L hw hm hG hL => by
        refine f_il 0 rfl hL rfl ?_
        refine f_aln 4 rfl hL rfl ?_
        refine m_gfi so55 (m 55 21) rfl hw hm rfl rfl ?_
        refine f_ic rfl (by decide) (by omega) (fun ci => ?_) (fun ci => ?_)
        · have ci : (m 55 21 : Int) ≤ (0 : Int) := ci
          have e8 : wmE m k 1 1 5 (wmE m k 1 1 4 (wmE m k 1 1 3 (wmE m k 1 1 2 (wmE m k 1 1 1 (wmE m k 1 1 0 (true)))))) = true := by unfold wmE; rw [if_neg (by omega), if_neg (by omega), if_neg (by omega), if_neg (by omega), if_neg (by omega), if_neg (by omega)]
          rw [e8] at hG
          refine f_iln 3 rfl hL rfl ?_
          refine f_il 1 rfl hL rfl ?_
          refine f_if rfl (by decide) (fun c_9 => absurd (show (1 : Int) = (0 : Int) from c_9) (by decide)) (fun _ => ?_)
          refine f_s [fi (1), fi (b)] rfl rfl ?_
          refine f_iln 2 rfl hL rfl ?_
          refine b_ishl rfl ?_
          refine f_goto rfl ?_
          refine b_ior rfl ?_
          refine f_istn [(2, fi (iO (b) (iS (1) (1)))), (5, fi (0)), (4, fi (1)), (3, fi (1)), (0, .ref 55), (1, fi (k))] rfl (by decide) hL rfl (fun L361 hL361 => ?_)
          refine f_inc 3 [(3, fi (2)), (2, fi (iO (b) (iS (1) (1)))), (5, fi (0)), (4, fi (1)), (0, .ref 55), (1, fi (k))] rfl (by decide) hL361 rfl rfl (fun L362 hL362 => ?_)
          refine f_goto rfl ?_
          have e9 : wm1 m k 1 1 (iS 1 1) b = iO (b) (iS (1) (1)) := (if_pos pp).trans (by rw [← hG, if_pos rfl])
          rw [e9]
          exact hK2 hc _ _ hw hm (hL362.sel [0, 1, 4, 5] rfl)
        · have ci : ¬ ((m 55 21 : Int) ≤ (0 : Int)) := ci
          refine f_il 1 rfl hL rfl ?_
          refine f_if rfl (by decide) (fun c_9 => absurd (show (1 : Int) = (0 : Int) from c_9) (by decide)) (fun _ => ?_)
          refine f_aln 4 rfl hL rfl ?_
          refine m_gfr so55 rfl hw rfl (by decide) ?_
          refine f_il 0 rfl hL rfl ?_
          refine m_ia sa67 (m 67 0) rfl hw hm (by omega) (by omega) (by decide) rfl ?_
          refine f_s [fi (5), fi (m 67 0)] rfl rfl ?_
          refine f_iln 5 rfl hL rfl ?_
          refine f_iadd rfl ?_
          refine f_ic rfl (hR 67 0) (by omega) (fun c2 => ?_) (fun c2 => ?_)
          · have c2 : ¬ (m 67 0 : Int) = (5 + k : Int) := c2
            refine f_s [fi (1)] rfl rfl ?_
            refine f_goto rfl ?_
            refine f_ist [(4, fi (1)), (5, fi (0)), (3, fi (1)), (2, fi (b)), (0, .ref 55), (1, fi (k))] rfl (by decide) hL rfl (fun L363 hL363 => ?_)
            refine f_inc 1 [(5, fi (1)), (4, fi (1)), (3, fi (1)), (2, fi (b)), (0, .ref 55), (1, fi (k))] rfl (by decide) hL363 rfl rfl (fun L364 hL364 => ?_)
            refine f_goto rfl ?_
            have e9 : wmE m k 1 1 0 true = true := (if_pos (by omega)).trans (by rw [decide_eq_true c2]; rfl)
            rw [e9] at hG
            exact hI1_1 hc _ hw hm hG (hL364.sel [0, 1, 2, 3, 4, 5] rfl)
          · have c2 : ¬ (¬ (m 67 0 : Int) = (5 + k : Int)) := c2
            refine f_aln 4 rfl hL rfl ?_
            refine f_s [fi (0), .ref 55] rfl rfl ?_
            refine f_iln 2 rfl hL rfl ?_
            refine f_aln 4 rfl hL rfl ?_
            refine m_gfr so55 rfl hw rfl (by decide) ?_
            refine f_il 0 rfl hL rfl ?_
            refine m_ia sa68 (m 68 0) rfl hw hm (by omega) (by omega) (by decide) rfl ?_
            refine m_k1 (t90_0 (p := 1) (h := m 68 0) (by decide) (by decide) (hR 68 0) (fv := m 58 1) rfl (hR 58 _) (uv := m 59 1) rfl (hR 59 _)) hw hm rfl rfl rfl (m_ar so55 hw rfl) rfl (fun hc53 hw53 hm53 => ?_)
            have c2 : m 67 0 = 5 + k := by omega
            refine f_if rfl (bI_r _) (fun c3 => ?_) (fun c3 => ?_)
            · have c3 : (bI (decide (¬ iA (iR (m 61 16) (1)) (1) = 1 ∧ m 58 1 ≤ m 68 0 ∧ m 68 0 ≤ m 59 1)) : Int) = (0 : Int) := c3
              have c3 : ¬ (¬ iA (iR (m 61 16) (1)) (1) = 1 ∧ m 58 1 ≤ m 68 0 ∧ m 68 0 ≤ m 59 1) := bI_f c3
              refine f_s [fi (0)] rfl rfl ?_
              refine f_ist [(4, fi (0)), (5, fi (0)), (3, fi (1)), (2, fi (b)), (0, .ref 55), (1, fi (k))] rfl (by decide) hL rfl (fun L365 hL365 => ?_)
              refine f_inc 1 [(5, fi (1)), (4, fi (0)), (3, fi (1)), (2, fi (b)), (0, .ref 55), (1, fi (k))] rfl (by decide) hL365 rfl rfl (fun L366 hL366 => ?_)
              refine f_goto rfl ?_
              have e9 : wmE m k 1 1 0 true = false := (if_pos (by omega)).trans (by rw [decide_eq_false (fun z => z c2), decide_eq_false c3]; rfl)
              rw [e9] at hG
              exact hI1_0 hc53 _ hw53 hm53 hG (hL366.sel [0, 1, 2, 3, 4, 5] rfl)
            · have c3 : ¬ ((bI (decide (¬ iA (iR (m 61 16) (1)) (1) = 1 ∧ m 58 1 ≤ m 68 0 ∧ m 68 0 ≤ m 59 1)) : Int) = (0 : Int)) := c3
              have c3 : ¬ iA (iR (m 61 16) (1)) (1) = 1 ∧ m 58 1 ≤ m 68 0 ∧ m 68 0 ≤ m 59 1 := bI_t c3
              refine f_aln 4 rfl hL rfl ?_
              refine f_iln 2 rfl hL rfl ?_
              refine f_aln 4 rfl hL rfl ?_
              refine m_gfr so55 rfl hw53 rfl (by decide) ?_
              refine f_il 0 rfl hL rfl ?_
              refine m_ia sa68 (m 68 0) rfl hw53 hm53 (by omega) (by omega) (by decide) rfl ?_
              refine m_k1 (show h_M 159 [.ref 55, fi (1), fi (m 68 0)] m (some (fi (bI (sn m 1 (m 68 0))))) m from se_sn m 1 (m 68 0) ▸ t159 ht (by decide) (hR 68 0)) hw53 hm53 rfl rfl rfl (m_ar so55 hw53 rfl) rfl (fun hc54 hw54 hm54 => ?_)
              refine f_if rfl (bI_r _) (fun c4 => ?_) (fun c4 => ?_)
              · have c4 : ¬ (bI (sn m 1 (m 68 0)) : Int) = (0 : Int) := c4
                refine f_s [fi (0)] rfl rfl ?_
                refine f_ist [(4, fi (0)), (5, fi (0)), (3, fi (1)), (2, fi (b)), (0, .ref 55), (1, fi (k))] rfl (by decide) hL rfl (fun L367 hL367 => ?_)
                refine f_inc 1 [(5, fi (1)), (4, fi (0)), (3, fi (1)), (2, fi (b)), (0, .ref 55), (1, fi (k))] rfl (by decide) hL367 rfl rfl (fun L368 hL368 => ?_)
                refine f_goto rfl ?_
                have e9 : wmE m k 1 1 0 true = false := (if_pos (by omega)).trans (by rw [decide_eq_false (fun z => z c2), decide_eq_true c3, bI1 c4]; rfl)
                rw [e9] at hG
                exact hI1_0 hc54 _ hw54 hm54 hG (hL368.sel [0, 1, 2, 3, 4, 5] rfl)
              · have c4 : ¬ (¬ (bI (sn m 1 (m 68 0)) : Int) = (0 : Int)) := c4
                refine f_s [fi (1)] rfl rfl ?_
                refine f_goto rfl ?_
                refine f_ist [(4, fi (1)), (5, fi (0)), (3, fi (1)), (2, fi (b)), (0, .ref 55), (1, fi (k))] rfl (by decide) hL rfl (fun L369 hL369 => ?_)
                refine f_inc 1 [(5, fi (1)), (4, fi (1)), (3, fi (1)), (2, fi (b)), (0, .ref 55), (1, fi (k))] rfl (by decide) hL369 rfl rfl (fun L370 hL370 => ?_)
                refine f_goto rfl ?_
                have e9 : wmE m k 1 1 0 true = true := (if_pos (by omega)).trans (by rw [decide_eq_false (fun z => z c2), decide_eq_true c3, bI0 (Classical.byContradiction c4)]; rfl)
                rw [e9] at hG
                exact hI1_1 hc54 _ hw54 hm54 hG (hL370.sel [0, 1, 2, 3, 4, 5] rfl)
      refine f_aln 2 rfl hL rfl ?_
      refine f_s [fi (0), .ref 55] rfl rfl ?_
      refine f_iln 0 rfl hL rfl ?_
      refine m_k1 (t74_0 (by decide)) hw hm rfl rfl rfl (m_ar so55 hw rfl) rfl (fun hc55 hw55 hm55 => ?_)
      refine f_if rfl (bI_r _) (fun d1 => ?_) (fun d1 => ?_)
      · have d1 : ¬ (bI (decide (iA (iR (m 61 16) (1)) (1) = 1)) : Int) = (0 : Int) := d1
        have d1 : iA (iR (m 61 16) (1)) (1) = 1 := bI_t d1
        refine f_s [fi (0)] rfl rfl ?_
        refine f_ist [(4, fi (0)), (3, fi (1)), (2, fi (b)), (0, .ref 55), (1, fi (k))] rfl (by decide) hL rfl (fun L371 hL371 => ?_)
        refine f_s [fi (0)] rfl rfl ?_
        refine f_ist [(5, fi (0)), (4, fi (0)), (3, fi (1)), (2, fi (b)), (0, .ref 55), (1, fi (k))] rfl (by decide) hL371 rfl (fun L372 hL372 => ?_)
        have e7 : false = decide (¬ iA (iR (m 61 16) 1) 1 = 1 ∧ iA (iR (m 60 1) k) 1 = 1) := (decide_eq_false (fun z => z.1 d1)).symm
        exact hI0_0 hc55 _ hw55 hm55 (by rw [e7]; rfl) (hL372.sel [0, 1, 2, 3, 4, 5] rfl)
      · have d1 : ¬ (¬ (bI (decide (iA (iR (m 61 16) (1)) (1) = 1)) : Int) = (0 : Int)) := d1
        have d1 : ¬ (iA (iR (m 61 16) (1)) (1) = 1) := bI_n d1
        refine f_aln 2 rfl hL rfl ?_
        refine m_gfr so55 rfl hw55 rfl (by decide) ?_
        refine f_iln 0 rfl hL rfl ?_
        refine m_ia sa60 (m 60 1) rfl hw55 hm55 (by omega) (by omega) (by decide) rfl ?_
        refine f_iln 3 rfl hL rfl ?_
        refine m_k1 (t73 (hR 60 1) rk) hw55 hm55 rfl rfl rfl rfl rfl (fun hc56 hw56 hm56 => ?_)
        refine f_if rfl (bI_r _) (fun d2 => ?_) (fun d2 => ?_)
        · have d2 : (bI (decide (iA (iR (m 60 1) (k)) (1) = 1)) : Int) = (0 : Int) := d2
          have d2 : ¬ (iA (iR (m 60 1) (k)) (1) = 1) := bI_f d2
          refine f_s [fi (0)] rfl rfl ?_
          refine f_ist [(4, fi (0)), (3, fi (1)), (2, fi (b)), (0, .ref 55), (1, fi (k))] rfl (by decide) hL rfl (fun L373 hL373 => ?_)
          refine f_s [fi (0)] rfl rfl ?_
          refine f_ist [(5, fi (0)), (4, fi (0)), (3, fi (1)), (2, fi (b)), (0, .ref 55), (1, fi (k))] rfl (by decide) hL373 rfl (fun L374 hL374 => ?_)
          have e7 : false = decide (¬ iA (iR (m 61 16) 1) 1 = 1 ∧ iA (iR (m 60 1) k) 1 = 1) := (decide_eq_false (fun z => d2 z.2)).symm
          exact hI0_0 hc56 _ hw56 hm56 (by rw [e7]; rfl) (hL374.sel [0, 1, 2, 3, 4, 5] rfl)
        · have d2 : ¬ ((bI (decide (iA (iR (m 60 1) (k)) (1) = 1)) : Int) = (0 : Int)) := d2
          have d2 : iA (iR (m 60 1) (k)) (1) = 1 := bI_t d2
          refine f_s [fi (1)] rfl rfl ?_
          refine f_goto rfl ?_
          refine f_ist [(4, fi (1)), (3, fi (1)), (2, fi (b)), (0, .ref 55), (1, fi (k))] rfl (by decide) hL rfl (fun L375 hL375 => ?_)
          refine f_s [fi (0)] rfl rfl ?_
          refine f_ist [(5, fi (0)), (4, fi (1)), (3, fi (1)), (2, fi (b)), (0, .ref 55), (1, fi (k))] rfl (by decide) hL375 rfl (fun L376 hL376 => ?_)
          have e7 : true = decide (¬ iA (iR (m 61 16) 1) 1 = 1 ∧ iA (iR (m 60 1) k) 1 = 1) := (decide_eq_true ⟨d1, d2⟩).symm
          exact hI0_1 hc56 _ hw56 hm56 (by rw [e7]; rfl) (hL376.sel [0, 1, 2, 3, 4, 5] rfl)
  have hK0 : ∀ (hc : ev_H) (b : Int) (L : ev_L), y_in yGw hc → gi hc = m → f_L L [(3, fi (0)), (2, fi (b)), (0, .ref 55), (1, fi (k))] → x_W none (1, 0, 6, 1, 11, 3, 66, 0, 0, ev_t160) 14 L [] hc 0 0 (fun r' h' => r' = some (fi (wm1 m k 4 4 (iS 1 4) (wm1 m k 3 3 (iS 1 3) (wm1 m k 2 2 (iS 1 2) (wm1 m k 1 1 (iS 1 1) (wm1 m k 0 0 (iS 1 0) (b))))))) ∧ y_in yGw h' ∧ gi h' = m) := fun hc b L hw hm hL => by
    refine f_iln 0 rfl hL rfl ?_
    refine f_aln 2 rfl hL rfl ?_
    refine m_gfi so55 (m 55 1) rfl hw hm rfl rfl ?_
    refine f_ic rfl (by decide) (by omega) (fun c1 => ?_) (fun c1 => ?_)
    · have c1 : (m 55 1 : Int) ≤ (0 : Int) := c1
      have e8 : wm1 m k 4 4 (iS 1 4) (wm1 m k 3 3 (iS 1 3) (wm1 m k 2 2 (iS 1 2) (wm1 m k 1 1 (iS 1 1) (wm1 m k 0 0 (iS 1 0) (b))))) = b := by unfold wm1; rw [if_neg (by omega), if_neg (by omega), if_neg (by omega), if_neg (by omega), if_neg (by omega)]
      rw [e8]
      refine f_iln 1 rfl hL rfl ?_
      exact f_ret1 rfl ⟨rfl, hw, hm⟩
    · have c1 : ¬ ((m 55 1 : Int) ≤ (0 : Int)) := c1
      have pp : (0 : Int) < m 55 1 := by omega
      have hI6_0 : ∀ (hc : ev_H) (L : ev_L), y_in yGw hc → gi hc = m → false = wmB m k 0 0 → f_L L [(5, fi (6)), (4, fi (0)), (3, fi (0)), (2, fi (b)), (0, .ref 55), (1, fi (k))] → x_W none (1, 0, 6, 1, 11, 3, 66, 0, 0, ev_t160) 54 L [] hc 0 0 (fun r' h' => r' = some (fi (wm1 m k 4 4 (iS 1 4) (wm1 m k 3 3 (iS 1 3) (wm1 m k 2 2 (iS 1 2) (wm1 m k 1 1 (iS 1 1) (wm1 m k 0 0 (iS 1 0) (b))))))) ∧ y_in yGw h' ∧ gi h' = m) := fun hc L hw hm hG hL => by
        refine f_il 0 rfl hL rfl ?_
        refine f_aln 4 rfl hL rfl ?_
        refine m_gfi so55 (m 55 21) rfl hw hm rfl rfl ?_
        refine f_ic rfl (by decide) (by omega) (fun _ => ?_) (fun c_9 => absurd (show (m 55 21 : Int) ≤ (6 : Int) from (by omega)) c_9)
        refine f_iln 3 rfl hL rfl ?_
        refine f_il 1 rfl hL rfl ?_
        refine f_if rfl (by decide) (fun _ => ?_) (fun c_9 => absurd (show (0 : Int) = (0 : Int) from (by decide)) c_9)
        refine f_s [fi (0), fi (b)] rfl rfl ?_
        refine b_ior rfl ?_
        refine f_istn [(2, fi (iO (b) (0))), (5, fi (6)), (4, fi (0)), (3, fi (0)), (0, .ref 55), (1, fi (k))] rfl (by decide) hL rfl (fun L377 hL377 => ?_)
        refine f_inc 3 [(3, fi (1)), (2, fi (iO (b) (0))), (5, fi (6)), (4, fi (0)), (0, .ref 55), (1, fi (k))] rfl (by decide) hL377 rfl rfl (fun L378 hL378 => ?_)
        refine f_goto rfl ?_
        have e9 : wm1 m k 0 0 (iS 1 0) b = iO (b) (0) := (if_pos pp).trans (by rw [← hG, if_neg (by decide)])
        rw [e9]
        exact hK1 hc _ _ hw hm (hL378.sel [0, 1, 4, 5] rfl)
      have hI6_1 : ∀ (hc : ev_H) (L : ev_L), y_in yGw hc → gi hc = m → true = wmB m k 0 0 → f_L L [(5, fi (6)), (4, fi (1)), (3, fi (0)), (2, fi (b)), (0, .ref 55), (1, fi (k))] → x_W none (1, 0, 6, 1, 11, 3, 66, 0, 0, ev_t160) 54 L [] hc 0 0 (fun r' h' => r' = some (fi (wm1 m k 4 4 (iS 1 4) (wm1 m k 3 3 (iS 1 3) (wm1 m k 2 2 (iS 1 2) (wm1 m k 1 1 (iS 1 1) (wm1 m k 0 0 (iS 1 0) (b))))))) ∧ y_in yGw h' ∧ gi h' = m) := fun hc L hw hm hG hL => by
        refine f_il 0 rfl hL rfl ?_
        refine f_aln 4 rfl hL rfl ?_
        refine m_gfi so55 (m 55 21) rfl hw hm rfl rfl ?_
        refine f_ic rfl (by decide) (by omega) (fun _ => ?_) (fun c_9 => absurd (show (m 55 21 : Int) ≤ (6 : Int) from (by omega)) c_9)
        refine f_iln 3 rfl hL rfl ?_
        refine f_il 1 rfl hL rfl ?_
        refine f_if rfl (by decide) (fun c_9 => absurd (show (1 : Int) = (0 : Int) from c_9) (by decide)) (fun _ => ?_)
        refine f_s [fi (1), fi (b)] rfl rfl ?_
        refine f_iln 2 rfl hL rfl ?_
        refine b_ishl rfl ?_
        refine f_goto rfl ?_
        refine b_ior rfl ?_
        refine f_istn [(2, fi (iO (b) (iS (1) (0)))), (5, fi (6)), (4, fi (1)), (3, fi (0)), (0, .ref 55), (1, fi (k))] rfl (by decide) hL rfl (fun L379 hL379 => ?_)
        refine f_inc 3 [(3, fi (1)), (2, fi (iO (b) (iS (1) (0)))), (5, fi (6)), (4, fi (1)), (0, .ref 55), (1, fi (k))] rfl (by decide) hL379 rfl rfl (fun L380 hL380 => ?_)
        refine f_goto rfl ?_
        have e9 : wm1 m k 0 0 (iS 1 0) b = iO (b) (iS (1) (0)) := (if_pos pp).trans (by rw [← hG, if_pos rfl])
        rw [e9]
        exact hK1 hc _ _ hw hm (hL380.sel [0, 1, 4, 5] rfl)
      have hI5_0 : ∀ (hc : ev_H) (L : ev_L), y_in yGw hc → gi hc = m → wmE m k 0 0 5 (false) = wmB m k 0 0 → f_L L [(5, fi (5)), (4, fi (0)), (3, fi (0)), (2, fi (b)), (0, .ref 55), (1, fi (k))] → x_W none (1, 0, 6, 1, 11, 3, 66, 0, 0, ev_t160) 54 L [] hc 0 0 (fun r' h' => r' = some (fi (wm1 m k 4 4 (iS 1 4) (wm1 m k 3 3 (iS 1 3) (wm1 m k 2 2 (iS 1 2) (wm1 m k 1 1 (iS 1 1) (wm1 m k 0 0 (iS 1 0) (b))))))) ∧ y_in yGw h' ∧ gi h' = m) := fun hc L hw hm hG hL => by
        refine f_il 0 rfl hL rfl ?_
        refine f_aln 4 rfl hL rfl ?_
        refine m_gfi so55 (m 55 21) rfl hw hm rfl rfl ?_
        refine f_ic rfl (by decide) (by omega) (fun ci => ?_) (fun ci => ?_)
        · have ci : (m 55 21 : Int) ≤ (5 : Int) := ci
          have e8 : wmE m k 0 0 5 (false) = false := by unfold wmE; rw [if_neg (by omega)]
          rw [e8] at hG
          refine f_iln 3 rfl hL rfl ?_
          refine f_il 1 rfl hL rfl ?_
          refine f_if rfl (by decide) (fun _ => ?_) (fun c_9 => absurd (show (0 : Int) = (0 : Int) from (by decide)) c_9)
          refine f_s [fi (0), fi (b)] rfl rfl ?_
          refine b_ior rfl ?_
          refine f_istn [(2, fi (iO (b) (0))), (5, fi (5)), (4, fi (0)), (3, fi (0)), (0, .ref 55), (1, fi (k))] rfl (by decide) hL rfl (fun L381 hL381 => ?_)
          refine f_inc 3 [(3, fi (1)), (2, fi (iO (b) (0))), (5, fi (5)), (4, fi (0)), (0, .ref 55), (1, fi (k))] rfl (by decide) hL381 rfl rfl (fun L382 hL382 => ?_)
          refine f_goto rfl ?_
          have e9 : wm1 m k 0 0 (iS 1 0) b = iO (b) (0) := (if_pos pp).trans (by rw [← hG, if_neg (by decide)])
          rw [e9]
          exact hK1 hc _ _ hw hm (hL382.sel [0, 1, 4, 5] rfl)
        · have ci : ¬ ((m 55 21 : Int) ≤ (5 : Int)) := ci
          refine f_il 1 rfl hL rfl ?_
          refine f_if rfl (by decide) (fun _ => ?_) (fun c_9 => absurd (show (0 : Int) = (0 : Int) from (by decide)) c_9)
          refine f_s [fi (0)] rfl rfl ?_
          refine f_ist [(4, fi (0)), (5, fi (5)), (3, fi (0)), (2, fi (b)), (0, .ref 55), (1, fi (k))] rfl (by decide) hL rfl (fun L383 hL383 => ?_)
          refine f_inc 1 [(5, fi (6)), (4, fi (0)), (3, fi (0)), (2, fi (b)), (0, .ref 55), (1, fi (k))] rfl (by decide) hL383 rfl rfl (fun L384 hL384 => ?_)
          refine f_goto rfl ?_
          have e9 : wmE m k 0 0 5 false = false := (if_pos (by omega)).trans (by rfl)
          rw [e9] at hG
          exact hI6_0 hc _ hw hm hG (hL384.sel [0, 1, 2, 3, 4, 5] rfl)
      have hI5_1 : ∀ (hc : ev_H) (L : ev_L), y_in yGw hc → gi hc = m → wmE m k 0 0 5 (true) = wmB m k 0 0 → f_L L [(5, fi (5)), (4, fi (1)), (3, fi (0)), (2, fi (b)), (0, .ref 55), (1, fi (k))] → x_W none (1, 0, 6, 1, 11, 3, 66, 0, 0, ev_t160) 54 L [] hc 0 0 (fun r' h' => r' = some (fi (wm1 m k 4 4 (iS 1 4) (wm1 m k 3 3 (iS 1 3) (wm1 m k 2 2 (iS 1 2) (wm1 m k 1 1 (iS 1 1) (wm1 m k 0 0 (iS 1 0) (b))))))) ∧ y_in yGw h' ∧ gi h' = m) := fun hc L hw hm hG hL => by
        refine f_il 0 rfl hL rfl ?_
        refine f_aln 4 rfl hL rfl ?_
        refine m_gfi so55 (m 55 21) rfl hw hm rfl rfl ?_
        refine f_ic rfl (by decide) (by omega) (fun ci => ?_) (fun ci => ?_)
        · have ci : (m 55 21 : Int) ≤ (5 : Int) := ci
          have e8 : wmE m k 0 0 5 (true) = true := by unfold wmE; rw [if_neg (by omega)]
          rw [e8] at hG
          refine f_iln 3 rfl hL rfl ?_
          refine f_il 1 rfl hL rfl ?_
          refine f_if rfl (by decide) (fun c_9 => absurd (show (1 : Int) = (0 : Int) from c_9) (by decide)) (fun _ => ?_)
          refine f_s [fi (1), fi (b)] rfl rfl ?_
          refine f_iln 2 rfl hL rfl ?_
          refine b_ishl rfl ?_
          refine f_goto rfl ?_
          refine b_ior rfl ?_
          refine f_istn [(2, fi (iO (b) (iS (1) (0)))), (5, fi (5)), (4, fi (1)), (3, fi (0)), (0, .ref 55), (1, fi (k))] rfl (by decide) hL rfl (fun L385 hL385 => ?_)
          refine f_inc 3 [(3, fi (1)), (2, fi (iO (b) (iS (1) (0)))), (5, fi (5)), (4, fi (1)), (0, .ref 55), (1, fi (k))] rfl (by decide) hL385 rfl rfl (fun L386 hL386 => ?_)
          refine f_goto rfl ?_
          have e9 : wm1 m k 0 0 (iS 1 0) b = iO (b) (iS (1) (0)) := (if_pos pp).trans (by rw [← hG, if_pos rfl])
          rw [e9]
          exact hK1 hc _ _ hw hm (hL386.sel [0, 1, 4, 5] rfl)
        · have ci : ¬ ((m 55 21 : Int) ≤ (5 : Int)) := ci
          refine f_il 1 rfl hL rfl ?_
          refine f_if rfl (by decide) (fun c_9 => absurd (show (1 : Int) = (0 : Int) from c_9) (by decide)) (fun _ => ?_)
          refine f_aln 4 rfl hL rfl ?_
          refine m_gfr so55 rfl hw rfl (by decide) ?_
          refine f_il 0 rfl hL rfl ?_
          refine m_ia sa67 (m 67 5) rfl hw hm (by omega) (by omega) (by decide) rfl ?_
          refine f_s [fi (5), fi (m 67 5)] rfl rfl ?_
          refine f_iln 5 rfl hL rfl ?_
          refine f_iadd rfl ?_
          refine f_ic rfl (hR 67 5) (by omega) (fun c2 => ?_) (fun c2 => ?_)
          · have c2 : ¬ (m 67 5 : Int) = (5 + k : Int) := c2
            refine f_s [fi (1)] rfl rfl ?_
            refine f_goto rfl ?_
            refine f_ist [(4, fi (1)), (5, fi (5)), (3, fi (0)), (2, fi (b)), (0, .ref 55), (1, fi (k))] rfl (by decide) hL rfl (fun L387 hL387 => ?_)
            refine f_inc 1 [(5, fi (6)), (4, fi (1)), (3, fi (0)), (2, fi (b)), (0, .ref 55), (1, fi (k))] rfl (by decide) hL387 rfl rfl (fun L388 hL388 => ?_)
            refine f_goto rfl ?_
            have e9 : wmE m k 0 0 5 true = true := (if_pos (by omega)).trans (by rw [decide_eq_true c2]; rfl)
            rw [e9] at hG
            exact hI6_1 hc _ hw hm hG (hL388.sel [0, 1, 2, 3, 4, 5] rfl)
          · have c2 : ¬ (¬ (m 67 5 : Int) = (5 + k : Int)) := c2
            refine f_aln 4 rfl hL rfl ?_
            refine f_s [fi (0), .ref 55] rfl rfl ?_
            refine f_iln 2 rfl hL rfl ?_
            refine f_aln 4 rfl hL rfl ?_
            refine m_gfr so55 rfl hw rfl (by decide) ?_
            refine f_il 0 rfl hL rfl ?_
            refine m_ia sa68 (m 68 5) rfl hw hm (by omega) (by omega) (by decide) rfl ?_
            refine m_k1 (t90_0 (p := 0) (h := m 68 5) (by decide) (by decide) (hR 68 5) (fv := m 58 0) rfl (hR 58 _) (uv := m 59 0) rfl (hR 59 _)) hw hm rfl rfl rfl (m_ar so55 hw rfl) rfl (fun hc57 hw57 hm57 => ?_)
            have c2 : m 67 5 = 5 + k := by omega
            refine f_if rfl (bI_r _) (fun c3 => ?_) (fun c3 => ?_)
            · have c3 : (bI (decide (¬ iA (iR (m 61 16) (0)) (1) = 1 ∧ m 58 0 ≤ m 68 5 ∧ m 68 5 ≤ m 59 0)) : Int) = (0 : Int) := c3
              have c3 : ¬ (¬ iA (iR (m 61 16) (0)) (1) = 1 ∧ m 58 0 ≤ m 68 5 ∧ m 68 5 ≤ m 59 0) := bI_f c3
              refine f_s [fi (0)] rfl rfl ?_
              refine f_ist [(4, fi (0)), (5, fi (5)), (3, fi (0)), (2, fi (b)), (0, .ref 55), (1, fi (k))] rfl (by decide) hL rfl (fun L389 hL389 => ?_)
              refine f_inc 1 [(5, fi (6)), (4, fi (0)), (3, fi (0)), (2, fi (b)), (0, .ref 55), (1, fi (k))] rfl (by decide) hL389 rfl rfl (fun L390 hL390 => ?_)
              refine f_goto rfl ?_
              have e9 : wmE m k 0 0 5 true = false := (if_pos (by omega)).trans (by rw [decide_eq_false (fun z => z c2), decide_eq_false c3]; rfl)
              rw [e9] at hG
              exact hI6_0 hc57 _ hw57 hm57 hG (hL390.sel [0, 1, 2, 3, 4, 5] rfl)
            · have c3 : ¬ ((bI (decide (¬ iA (iR (m 61 16) (0)) (1) = 1 ∧ m 58 0 ≤ m 68 5 ∧ m 68 5 ≤ m 59 0)) : Int) = (0 : Int)) := c3
              have c3 : ¬ iA (iR (m 61 16) (0)) (1) = 1 ∧ m 58 0 ≤ m 68 5 ∧ m 68 5 ≤ m 59 0 := bI_t c3
              refine f_aln 4 rfl hL rfl ?_
              refine f_iln 2 rfl hL rfl ?_
              refine f_aln 4 rfl hL rfl ?_
              refine m_gfr so55 rfl hw57 rfl (by decide) ?_
              refine f_il 0 rfl hL rfl ?_
              refine m_ia sa68 (m 68 5) rfl hw57 hm57 (by omega) (by omega) (by decide) rfl ?_
              refine m_k1 (show h_M 159 [.ref 55, fi (0), fi (m 68 5)] m (some (fi (bI (sn m 0 (m 68 5))))) m from se_sn m 0 (m 68 5) ▸ t159 ht (by decide) (hR 68 5)) hw57 hm57 rfl rfl rfl (m_ar so55 hw57 rfl) rfl (fun hc58 hw58 hm58 => ?_)
              refine f_if rfl (bI_r _) (fun c4 => ?_) (fun c4 => ?_)
              · have c4 : ¬ (bI (sn m 0 (m 68 5)) : Int) = (0 : Int) := c4
                refine f_s [fi (0)] rfl rfl ?_
                refine f_ist [(4, fi (0)), (5, fi (5)), (3, fi (0)), (2, fi (b)), (0, .ref 55), (1, fi (k))] rfl (by decide) hL rfl (fun L391 hL391 => ?_)
                refine f_inc 1 [(5, fi (6)), (4, fi (0)), (3, fi (0)), (2, fi (b)), (0, .ref 55), (1, fi (k))] rfl (by decide) hL391 rfl rfl (fun L392 hL392 => ?_)
                refine f_goto rfl ?_
                have e9 : wmE m k 0 0 5 true = false := (if_pos (by omega)).trans (by rw [decide_eq_false (fun z => z c2), decide_eq_true c3, bI1 c4]; rfl)
                rw [e9] at hG
                exact hI6_0 hc58 _ hw58 hm58 hG (hL392.sel [0, 1, 2, 3, 4, 5] rfl)
              · have c4 : ¬ (¬ (bI (sn m 0 (m 68 5)) : Int) = (0 : Int)) := c4
                refine f_s [fi (1)] rfl rfl ?_
                refine f_goto rfl ?_
                refine f_ist [(4, fi (1)), (5, fi (5)), (3, fi (0)), (2, fi (b)), (0, .ref 55), (1, fi (k))] rfl (by decide) hL rfl (fun L393 hL393 => ?_)
                refine f_inc 1 [(5, fi (6)), (4, fi (1)), (3, fi (0)), (2, fi (b)), (0, .ref 55), (1, fi (k))] rfl (by decide) hL393 rfl rfl (fun L394 hL394 => ?_)
                refine f_goto rfl ?_
                have e9 : wmE m k 0 0 5 true = true := (if_pos (by omega)).trans (by rw [decide_eq_false (fun z => z c2), decide_eq_true c3, bI0 (Classical.byContradiction c4)]; rfl)
                rw [e9] at hG
                exact hI6_1 hc58 _ hw58 hm58 hG (hL394.sel [0, 1, 2, 3, 4, 5] rfl)
      have hI4_0 : ∀ (hc : ev_H) (L : ev_L), y_in yGw hc → gi hc = m → wmE m k 0 0 5 (wmE m k 0 0 4 (false)) = wmB m k 0 0 → f_L L [(5, fi (4)), (4, fi (0)), (3, fi (0)), (2, fi (b)), (0, .ref 55), (1, fi (k))] → x_W none (1, 0, 6, 1, 11, 3, 66, 0, 0, ev_t160) 54 L [] hc 0 0 (fun r' h' => r' = some (fi (wm1 m k 4 4 (iS 1 4) (wm1 m k 3 3 (iS 1 3) (wm1 m k 2 2 (iS 1 2) (wm1 m k 1 1 (iS 1 1) (wm1 m k 0 0 (iS 1 0) (b))))))) ∧ y_in yGw h' ∧ gi h' = m) := fun hc L hw hm hG hL => by
        refine f_il 0 rfl hL rfl ?_
        refine f_aln 4 rfl hL rfl ?_
        refine m_gfi so55 (m 55 21) rfl hw hm rfl rfl ?_
        refine f_ic rfl (by decide) (by omega) (fun ci => ?_) (fun ci => ?_)
        · have ci : (m 55 21 : Int) ≤ (4 : Int) := ci
          have e8 : wmE m k 0 0 5 (wmE m k 0 0 4 (false)) = false := by unfold wmE; rw [if_neg (by omega), if_neg (by omega)]
          rw [e8] at hG
          refine f_iln 3 rfl hL rfl ?_
          refine f_il 1 rfl hL rfl ?_
          refine f_if rfl (by decide) (fun _ => ?_) (fun c_9 => absurd (show (0 : Int) = (0 : Int) from (by decide)) c_9)
          refine f_s [fi (0), fi (b)] rfl rfl ?_
          refine b_ior rfl ?_
          refine f_istn [(2, fi (iO (b) (0))), (5, fi (4)), (4, fi (0)), (3, fi (0)), (0, .ref 55), (1, fi (k))] rfl (by decide) hL rfl (fun L395 hL395 => ?_)
          refine f_inc 3 [(3, fi (1)), (2, fi (iO (b) (0))), (5, fi (4)), (4, fi (0)), (0, .ref 55), (1, fi (k))] rfl (by decide) hL395 rfl rfl (fun L396 hL396 => ?_)
          refine f_goto rfl ?_
          have e9 : wm1 m k 0 0 (iS 1 0) b = iO (b) (0) := (if_pos pp).trans (by rw [← hG, if_neg (by decide)])
          rw [e9]
          exact hK1 hc _ _ hw hm (hL396.sel [0, 1, 4, 5] rfl)
        · have ci : ¬ ((m 55 21 : Int) ≤ (4 : Int)) := ci
          refine f_il 1 rfl hL rfl ?_
          refine f_if rfl (by decide) (fun _ => ?_) (fun c_9 => absurd (show (0 : Int) = (0 : Int) from (by decide)) c_9)
          refine f_s [fi (0)] rfl rfl ?_
          refine f_ist [(4, fi (0)), (5, fi (4)), (3, fi (0)), (2, fi (b)), (0, .ref 55), (1, fi (k))] rfl (by decide) hL rfl (fun L397 hL397 => ?_)
          refine f_inc 1 [(5, fi (5)), (4, fi (0)), (3, fi (0)), (2, fi (b)), (0, .ref 55), (1, fi (k))] rfl (by decide) hL397 rfl rfl (fun L398 hL398 => ?_)
          refine f_goto rfl ?_
          have e9 : wmE m k 0 0 4 false = false := (if_pos (by omega)).trans (by rfl)
          rw [e9] at hG
          exact hI5_0 hc _ hw hm hG (hL398.sel [0, 1, 2, 3, 4, 5] rfl)
      have hI4_1 : ∀ (hc : ev_H) (L : ev_L), y_in yGw hc → gi hc = m → wmE m k 0 0 5 (wmE m k 0 0 4 (true)) = wmB m k 0 0 → f_L L [(5, fi (4)), (4, fi (1)), (3, fi (0)), (2, fi (b)), (0, .ref 55), (1, fi (k))] → x_W none (1, 0, 6, 1, 11, 3, 66, 0, 0, ev_t160) 54 L [] hc 0 0 (fun r' h' => r' = some (fi (wm1 m k 4 4 (iS 1 4) (wm1 m k 3 3 (iS 1 3) (wm1 m k 2 2 (iS 1 2) (wm1 m k 1 1 (iS 1 1) (wm1 m k 0 0 (iS 1 0) (b))))))) ∧ y_in yGw h' ∧ gi h' = m) := fun hc L hw hm hG hL => by
        refine f_il 0 rfl hL rfl ?_
        refine f_aln 4 rfl hL rfl ?_
        refine m_gfi so55 (m 55 21) rfl hw hm rfl rfl ?_
        refine f_ic rfl (by decide) (by omega) (fun ci => ?_) (fun ci => ?_)
        · have ci : (m 55 21 : Int) ≤ (4 : Int) := ci
          have e8 : wmE m k 0 0 5 (wmE m k 0 0 4 (true)) = true := by unfold wmE; rw [if_neg (by omega), if_neg (by omega)]
          rw [e8] at hG
          refine f_iln 3 rfl hL rfl ?_
          refine f_il 1 rfl hL rfl ?_
          refine f_if rfl (by decide) (fun c_9 => absurd (show (1 : Int) = (0 : Int) from c_9) (by decide)) (fun _ => ?_)
          refine f_s [fi (1), fi (b)] rfl rfl ?_
          refine f_iln 2 rfl hL rfl ?_
          refine b_ishl rfl ?_
          refine f_goto rfl ?_
          refine b_ior rfl ?_
          refine f_istn [(2, fi (iO (b) (iS (1) (0)))), (5, fi (4)), (4, fi (1)), (3, fi (0)), (0, .ref 55), (1, fi (k))] rfl (by decide) hL rfl (fun L399 hL399 => ?_)
          refine f_inc 3 [(3, fi (1)), (2, fi (iO (b) (iS (1) (0)))), (5, fi (4)), (4, fi (1)), (0, .ref 55), (1, fi (k))] rfl (by decide) hL399 rfl rfl (fun L400 hL400 => ?_)
          refine f_goto rfl ?_
          have e9 : wm1 m k 0 0 (iS 1 0) b = iO (b) (iS (1) (0)) := (if_pos pp).trans (by rw [← hG, if_pos rfl])
          rw [e9]
          exact hK1 hc _ _ hw hm (hL400.sel [0, 1, 4, 5] rfl)
        · have ci : ¬ ((m 55 21 : Int) ≤ (4 : Int)) := ci
          refine f_il 1 rfl hL rfl ?_
          refine f_if rfl (by decide) (fun c_9 => absurd (show (1 : Int) = (0 : Int) from c_9) (by decide)) (fun _ => ?_)
          refine f_aln 4 rfl hL rfl ?_
          refine m_gfr so55 rfl hw rfl (by decide) ?_
          refine f_il 0 rfl hL rfl ?_
          refine m_ia sa67 (m 67 4) rfl hw hm (by omega) (by omega) (by decide) rfl ?_
          refine f_s [fi (5), fi (m 67 4)] rfl rfl ?_
          refine f_iln 5 rfl hL rfl ?_
          refine f_iadd rfl ?_
          refine f_ic rfl (hR 67 4) (by omega) (fun c2 => ?_) (fun c2 => ?_)
          · have c2 : ¬ (m 67 4 : Int) = (5 + k : Int) := c2
            refine f_s [fi (1)] rfl rfl ?_
            refine f_goto rfl ?_
            refine f_ist [(4, fi (1)), (5, fi (4)), (3, fi (0)), (2, fi (b)), (0, .ref 55), (1, fi (k))] rfl (by decide) hL rfl (fun L401 hL401 => ?_)
            refine f_inc 1 [(5, fi (5)), (4, fi (1)), (3, fi (0)), (2, fi (b)), (0, .ref 55), (1, fi (k))] rfl (by decide) hL401 rfl rfl (fun L402 hL402 => ?_)
            refine f_goto rfl ?_
            have e9 : wmE m k 0 0 4 true = true := (if_pos (by omega)).trans (by rw [decide_eq_true c2]; rfl)
            rw [e9] at hG
            exact hI5_1 hc _ hw hm hG (hL402.sel [0, 1, 2, 3, 4, 5] rfl)
          · have c2 : ¬ (¬ (m 67 4 : Int) = (5 + k : Int)) := c2
            refine f_aln 4 rfl hL rfl ?_
            refine f_s [fi (0), .ref 55] rfl rfl ?_
            refine f_iln 2 rfl hL rfl ?_
            refine f_aln 4 rfl hL rfl ?_
            refine m_gfr so55 rfl hw rfl (by decide) ?_
            refine f_il 0 rfl hL rfl ?_
            refine m_ia sa68 (m 68 4) rfl hw hm (by omega) (by omega) (by decide) rfl ?_
            refine m_k1 (t90_0 (p := 0) (h := m 68 4) (by decide) (by decide) (hR 68 4) (fv := m 58 0) rfl (hR 58 _) (uv := m 59 0) rfl (hR 59 _)) hw hm rfl rfl rfl (m_ar so55 hw rfl) rfl (fun hc59 hw59 hm59 => ?_)
            have c2 : m 67 4 = 5 + k := by omega
            refine f_if rfl (bI_r _) (fun c3 => ?_) (fun c3 => ?_)
            · have c3 : (bI (decide (¬ iA (iR (m 61 16) (0)) (1) = 1 ∧ m 58 0 ≤ m 68 4 ∧ m 68 4 ≤ m 59 0)) : Int) = (0 : Int) := c3
              have c3 : ¬ (¬ iA (iR (m 61 16) (0)) (1) = 1 ∧ m 58 0 ≤ m 68 4 ∧ m 68 4 ≤ m 59 0) := bI_f c3
              refine f_s [fi (0)] rfl rfl ?_
              refine f_ist [(4, fi (0)), (5, fi (4)), (3, fi (0)), (2, fi (b)), (0, .ref 55), (1, fi (k))] rfl (by decide) hL rfl (fun L403 hL403 => ?_)
              refine f_inc 1 [(5, fi (5)), (4, fi (0)), (3, fi (0)), (2, fi (b)), (0, .ref 55), (1, fi (k))] rfl (by decide) hL403 rfl rfl (fun L404 hL404 => ?_)
              refine f_goto rfl ?_
              have e9 : wmE m k 0 0 4 true = false := (if_pos (by omega)).trans (by rw [decide_eq_false (fun z => z c2), decide_eq_false c3]; rfl)
              rw [e9] at hG
              exact hI5_0 hc59 _ hw59 hm59 hG (hL404.sel [0, 1, 2, 3, 4, 5] rfl)
            · have c3 : ¬ ((bI (decide (¬ iA (iR (m 61 16) (0)) (1) = 1 ∧ m 58 0 ≤ m 68 4 ∧ m 68 4 ≤ m 59 0)) : Int) = (0 : Int)) := c3
              have c3 : ¬ iA (iR (m 61 16) (0)) (1) = 1 ∧ m 58 0 ≤ m 68 4 ∧ m 68 4 ≤ m 59 0 := bI_t c3
              refine f_aln 4 rfl hL rfl ?_
              refine f_iln 2 rfl hL rfl ?_
              refine f_aln 4 rfl hL rfl ?_
              refine m_gfr so55 rfl hw59 rfl (by decide) ?_
              refine f_il 0 rfl hL rfl ?_
              refine m_ia sa68 (m 68 4) rfl hw59 hm59 (by omega) (by omega) (by decide) rfl ?_
              refine m_k1 (show h_M 159 [.ref 55, fi (0), fi (m 68 4)] m (some (fi (bI (sn m 0 (m 68 4))))) m from se_sn m 0 (m 68 4) ▸ t159 ht (by decide) (hR 68 4)) hw59 hm59 rfl rfl rfl (m_ar so55 hw59 rfl) rfl (fun hc60 hw60 hm60 => ?_)
              refine f_if rfl (bI_r _) (fun c4 => ?_) (fun c4 => ?_)
              · have c4 : ¬ (bI (sn m 0 (m 68 4)) : Int) = (0 : Int) := c4
                refine f_s [fi (0)] rfl rfl ?_
                refine f_ist [(4, fi (0)), (5, fi (4)), (3, fi (0)), (2, fi (b)), (0, .ref 55), (1, fi (k))] rfl (by decide) hL rfl (fun L405 hL405 => ?_)
                refine f_inc 1 [(5, fi (5)), (4, fi (0)), (3, fi (0)), (2, fi (b)), (0, .ref 55), (1, fi (k))] rfl (by decide) hL405 rfl rfl (fun L406 hL406 => ?_)
                refine f_goto rfl ?_
                have e9 : wmE m k 0 0 4 true = false := (if_pos (by omega)).trans (by rw [decide_eq_false (fun z => z c2), decide_eq_true c3, bI1 c4]; rfl)
                rw [e9] at hG
                exact hI5_0 hc60 _ hw60 hm60 hG (hL406.sel [0, 1, 2, 3, 4, 5] rfl)
              · have c4 : ¬ (¬ (bI (sn m 0 (m 68 4)) : Int) = (0 : Int)) := c4
                refine f_s [fi (1)] rfl rfl ?_
                refine f_goto rfl ?_
                refine f_ist [(4, fi (1)), (5, fi (4)), (3, fi (0)), (2, fi (b)), (0, .ref 55), (1, fi (k))] rfl (by decide) hL rfl (fun L407 hL407 => ?_)
                refine f_inc 1 [(5, fi (5)), (4, fi (1)), (3, fi (0)), (2, fi (b)), (0, .ref 55), (1, fi (k))] rfl (by decide) hL407 rfl rfl (fun L408 hL408 => ?_)
                refine f_goto rfl ?_
                have e9 : wmE m k 0 0 4 true = true := (if_pos (by omega)).trans (by rw [decide_eq_false (fun z => z c2), decide_eq_true c3, bI0 (Classical.byContradiction c4)]; rfl)
                rw [e9] at hG
                exact hI5_1 hc60 _ hw60 hm60 hG (hL408.sel [0, 1, 2, 3, 4, 5] rfl)
      have hI3_0 : ∀ (hc : ev_H) (L : ev_L), y_in yGw hc → gi hc = m → wmE m k 0 0 5 (wmE m k 0 0 4 (wmE m k 0 0 3 (false))) = wmB m k 0 0 → f_L L [(5, fi (3)), (4, fi (0)), (3, fi (0)), (2, fi (b)), (0, .ref 55), (1, fi (k))] → x_W none (1, 0, 6, 1, 11, 3, 66, 0, 0, ev_t160) 54 L [] hc 0 0 (fun r' h' => r' = some (fi (wm1 m k 4 4 (iS 1 4) (wm1 m k 3 3 (iS 1 3) (wm1 m k 2 2 (iS 1 2) (wm1 m k 1 1 (iS 1 1) (wm1 m k 0 0 (iS 1 0) (b))))))) ∧ y_in yGw h' ∧ gi h' = m) := fun hc L hw hm hG hL => by
        refine f_il 0 rfl hL rfl ?_
        refine f_aln 4 rfl hL rfl ?_
        refine m_gfi so55 (m 55 21) rfl hw hm rfl rfl ?_
        refine f_ic rfl (by decide) (by omega) (fun ci => ?_) (fun ci => ?_)
        · have ci : (m 55 21 : Int) ≤ (3 : Int) := ci
          have e8 : wmE m k 0 0 5 (wmE m k 0 0 4 (wmE m k 0 0 3 (false))) = false := by unfold wmE; rw [if_neg (by omega), if_neg (by omega), if_neg (by omega)]
          rw [e8] at hG
          refine f_iln 3 rfl hL rfl ?_
          refine f_il 1 rfl hL rfl ?_
          refine f_if rfl (by decide) (fun _ => ?_) (fun c_9 => absurd (show (0 : Int) = (0 : Int) from (by decide)) c_9)
          refine f_s [fi (0), fi (b)] rfl rfl ?_
          refine b_ior rfl ?_
          refine f_istn [(2, fi (iO (b) (0))), (5, fi (3)), (4, fi (0)), (3, fi (0)), (0, .ref 55), (1, fi (k))] rfl (by decide) hL rfl (fun L409 hL409 => ?_)
          refine f_inc 3 [(3, fi (1)), (2, fi (iO (b) (0))), (5, fi (3)), (4, fi (0)), (0, .ref 55), (1, fi (k))] rfl (by decide) hL409 rfl rfl (fun L410 hL410 => ?_)
          refine f_goto rfl ?_
          have e9 : wm1 m k 0 0 (iS 1 0) b = iO (b) (0) := (if_pos pp).trans (by rw [← hG, if_neg (by decide)])
          rw [e9]
          exact hK1 hc _ _ hw hm (hL410.sel [0, 1, 4, 5] rfl)
        · have ci : ¬ ((m 55 21 : Int) ≤ (3 : Int)) := ci
          refine f_il 1 rfl hL rfl ?_
          refine f_if rfl (by decide) (fun _ => ?_) (fun c_9 => absurd (show (0 : Int) = (0 : Int) from (by decide)) c_9)
          refine f_s [fi (0)] rfl rfl ?_
          refine f_ist [(4, fi (0)), (5, fi (3)), (3, fi (0)), (2, fi (b)), (0, .ref 55), (1, fi (k))] rfl (by decide) hL rfl (fun L411 hL411 => ?_)
          refine f_inc 1 [(5, fi (4)), (4, fi (0)), (3, fi (0)), (2, fi (b)), (0, .ref 55), (1, fi (k))] rfl (by decide) hL411 rfl rfl (fun L412 hL412 => ?_)
          refine f_goto rfl ?_
          have e9 : wmE m k 0 0 3 false = false := (if_pos (by omega)).trans (by rfl)
          rw [e9] at hG
          exact hI4_0 hc _ hw hm hG (hL412.sel [0, 1, 2, 3, 4, 5] rfl)
      have hI3_1 : ∀ (hc : ev_H) (L : ev_L), y_in yGw hc → gi hc = m → wmE m k 0 0 5 (wmE m k 0 0 4 (wmE m k 0 0 3 (true))) = wmB m k 0 0 → f_L L [(5, fi (3)), (4, fi (1)), (3, fi (0)), (2, fi (b)), (0, .ref 55), (1, fi (k))] → x_W none (1, 0, 6, 1, 11, 3, 66, 0, 0, ev_t160) 54 L [] hc 0 0 (fun r' h' => r' = some (fi (wm1 m k 4 4 (iS 1 4) (wm1 m k 3 3 (iS 1 3) (wm1 m k 2 2 (iS 1 2) (wm1 m k 1 1 (iS 1 1) (wm1 m k 0 0 (iS 1 0) (b))))))) ∧ y_in yGw h' ∧ gi h' = m) := fun hc L hw hm hG hL => by
        refine f_il 0 rfl hL rfl ?_
        refine f_aln 4 rfl hL rfl ?_
        refine m_gfi so55 (m 55 21) rfl hw hm rfl rfl ?_
        refine f_ic rfl (by decide) (by omega) (fun ci => ?_) (fun ci => ?_)
        · have ci : (m 55 21 : Int) ≤ (3 : Int) := ci
          have e8 : wmE m k 0 0 5 (wmE m k 0 0 4 (wmE m k 0 0 3 (true))) = true := by unfold wmE; rw [if_neg (by omega), if_neg (by omega), if_neg (by omega)]
          rw [e8] at hG
          refine f_iln 3 rfl hL rfl ?_
          refine f_il 1 rfl hL rfl ?_
          refine f_if rfl (by decide) (fun c_9 => absurd (show (1 : Int) = (0 : Int) from c_9) (by decide)) (fun _ => ?_)
          refine f_s [fi (1), fi (b)] rfl rfl ?_
          refine f_iln 2 rfl hL rfl ?_
          refine b_ishl rfl ?_
          refine f_goto rfl ?_
          refine b_ior rfl ?_
          refine f_istn [(2, fi (iO (b) (iS (1) (0)))), (5, fi (3)), (4, fi (1)), (3, fi (0)), (0, .ref 55), (1, fi (k))] rfl (by decide) hL rfl (fun L413 hL413 => ?_)
          refine f_inc 3 [(3, fi (1)), (2, fi (iO (b) (iS (1) (0)))), (5, fi (3)), (4, fi (1)), (0, .ref 55), (1, fi (k))] rfl (by decide) hL413 rfl rfl (fun L414 hL414 => ?_)
          refine f_goto rfl ?_
          have e9 : wm1 m k 0 0 (iS 1 0) b = iO (b) (iS (1) (0)) := (if_pos pp).trans (by rw [← hG, if_pos rfl])
          rw [e9]
          exact hK1 hc _ _ hw hm (hL414.sel [0, 1, 4, 5] rfl)
        · have ci : ¬ ((m 55 21 : Int) ≤ (3 : Int)) := ci
          refine f_il 1 rfl hL rfl ?_
          refine f_if rfl (by decide) (fun c_9 => absurd (show (1 : Int) = (0 : Int) from c_9) (by decide)) (fun _ => ?_)
          refine f_aln 4 rfl hL rfl ?_
          refine m_gfr so55 rfl hw rfl (by decide) ?_
          refine f_il 0 rfl hL rfl ?_
          refine m_ia sa67 (m 67 3) rfl hw hm (by omega) (by omega) (by decide) rfl ?_
          refine f_s [fi (5), fi (m 67 3)] rfl rfl ?_
          refine f_iln 5 rfl hL rfl ?_
          refine f_iadd rfl ?_
          refine f_ic rfl (hR 67 3) (by omega) (fun c2 => ?_) (fun c2 => ?_)
          · have c2 : ¬ (m 67 3 : Int) = (5 + k : Int) := c2
            refine f_s [fi (1)] rfl rfl ?_
            refine f_goto rfl ?_
            refine f_ist [(4, fi (1)), (5, fi (3)), (3, fi (0)), (2, fi (b)), (0, .ref 55), (1, fi (k))] rfl (by decide) hL rfl (fun L415 hL415 => ?_)
            refine f_inc 1 [(5, fi (4)), (4, fi (1)), (3, fi (0)), (2, fi (b)), (0, .ref 55), (1, fi (k))] rfl (by decide) hL415 rfl rfl (fun L416 hL416 => ?_)
            refine f_goto rfl ?_
            have e9 : wmE m k 0 0 3 true = true := (if_pos (by omega)).trans (by rw [decide_eq_true c2]; rfl)
            rw [e9] at hG
            exact hI4_1 hc _ hw hm hG (hL416.sel [0, 1, 2, 3, 4, 5] rfl)
          · have c2 : ¬ (¬ (m 67 3 : Int) = (5 + k : Int)) := c2
            refine f_aln 4 rfl hL rfl ?_
            refine f_s [fi (0), .ref 55] rfl rfl ?_
            refine f_iln 2 rfl hL rfl ?_
            refine f_aln 4 rfl hL rfl ?_
            refine m_gfr so55 rfl hw rfl (by decide) ?_
            refine f_il 0 rfl hL rfl ?_
            refine m_ia sa68 (m 68 3) rfl hw hm (by omega) (by omega) (by decide) rfl ?_
            refine m_k1 (t90_0 (p := 0) (h := m 68 3) (by decide) (by decide) (hR 68 3) (fv := m 58 0) rfl (hR 58 _) (uv := m 59 0) rfl (hR 59 _)) hw hm rfl rfl rfl (m_ar so55 hw rfl) rfl (fun hc61 hw61 hm61 => ?_)
            have c2 : m 67 3 = 5 + k := by omega
            refine f_if rfl (bI_r _) (fun c3 => ?_) (fun c3 => ?_)
            · have c3 : (bI (decide (¬ iA (iR (m 61 16) (0)) (1) = 1 ∧ m 58 0 ≤ m 68 3 ∧ m 68 3 ≤ m 59 0)) : Int) = (0 : Int) := c3
              have c3 : ¬ (¬ iA (iR (m 61 16) (0)) (1) = 1 ∧ m 58 0 ≤ m 68 3 ∧ m 68 3 ≤ m 59 0) := bI_f c3
              refine f_s [fi (0)] rfl rfl ?_
              refine f_ist [(4, fi (0)), (5, fi (3)), (3, fi (0)), (2, fi (b)), (0, .ref 55), (1, fi (k))] rfl (by decide) hL rfl (fun L417 hL417 => ?_)
              refine f_inc 1 [(5, fi (4)), (4, fi (0)), (3, fi (0)), (2, fi (b)), (0, .ref 55), (1, fi (k))] rfl (by decide) hL417 rfl rfl (fun L418 hL418 => ?_)
              refine f_goto rfl ?_
              have e9 : wmE m k 0 0 3 true = false := (if_pos (by omega)).trans (by rw [decide_eq_false (fun z => z c2), decide_eq_false c3]; rfl)
              rw [e9] at hG
              exact hI4_0 hc61 _ hw61 hm61 hG (hL418.sel [0, 1, 2, 3, 4, 5] rfl)
            · have c3 : ¬ ((bI (decide (¬ iA (iR (m 61 16) (0)) (1) = 1 ∧ m 58 0 ≤ m 68 3 ∧ m 68 3 ≤ m 59 0)) : Int) = (0 : Int)) := c3
              have c3 : ¬ iA (iR (m 61 16) (0)) (1) = 1 ∧ m 58 0 ≤ m 68 3 ∧ m 68 3 ≤ m 59 0 := bI_t c3
              refine f_aln 4 rfl hL rfl ?_
              refine f_iln 2 rfl hL rfl ?_
              refine f_aln 4 rfl hL rfl ?_
              refine m_gfr so55 rfl hw61 rfl (by decide) ?_
              refine f_il 0 rfl hL rfl ?_
              refine m_ia sa68 (m 68 3) rfl hw61 hm61 (by omega) (by omega) (by decide) rfl ?_
              refine m_k1 (show h_M 159 [.ref 55, fi (0), fi (m 68 3)] m (some (fi (bI (sn m 0 (m 68 3))))) m from se_sn m 0 (m 68 3) ▸ t159 ht (by decide) (hR 68 3)) hw61 hm61 rfl rfl rfl (m_ar so55 hw61 rfl) rfl (fun hc62 hw62 hm62 => ?_)
              refine f_if rfl (bI_r _) (fun c4 => ?_) (fun c4 => ?_)
              · have c4 : ¬ (bI (sn m 0 (m 68 3)) : Int) = (0 : Int) := c4
                refine f_s [fi (0)] rfl rfl ?_
                refine f_ist [(4, fi (0)), (5, fi (3)), (3, fi (0)), (2, fi (b)), (0, .ref 55), (1, fi (k))] rfl (by decide) hL rfl (fun L419 hL419 => ?_)
                refine f_inc 1 [(5, fi (4)), (4, fi (0)), (3, fi (0)), (2, fi (b)), (0, .ref 55), (1, fi (k))] rfl (by decide) hL419 rfl rfl (fun L420 hL420 => ?_)
                refine f_goto rfl ?_
                have e9 : wmE m k 0 0 3 true = false := (if_pos (by omega)).trans (by rw [decide_eq_false (fun z => z c2), decide_eq_true c3, bI1 c4]; rfl)
                rw [e9] at hG
                exact hI4_0 hc62 _ hw62 hm62 hG (hL420.sel [0, 1, 2, 3, 4, 5] rfl)
              · have c4 : ¬ (¬ (bI (sn m 0 (m 68 3)) : Int) = (0 : Int)) := c4
                refine f_s [fi (1)] rfl rfl ?_
                refine f_goto rfl ?_
                refine f_ist [(4, fi (1)), (5, fi (3)), (3, fi (0)), (2, fi (b)), (0, .ref 55), (1, fi (k))] rfl (by decide) hL rfl (fun L421 hL421 => ?_)
                refine f_inc 1 [(5, fi (4)), (4, fi (1)), (3, fi (0)), (2, fi (b)), (0, .ref 55), (1, fi (k))] rfl (by decide) hL421 rfl rfl (fun L422 hL422 => ?_)
                refine f_goto rfl ?_
                have e9 : wmE m k 0 0 3 true = true := (if_pos (by omega)).trans (by rw [decide_eq_false (fun z => z c2), decide_eq_true c3, bI0 (Classical.byContradiction c4)]; rfl)
                rw [e9] at hG
                exact hI4_1 hc62 _ hw62 hm62 hG (hL422.sel [0, 1, 2, 3, 4, 5] rfl)
      have hI2_0 : ∀ (hc : ev_H) (L : ev_L), y_in yGw hc → gi hc = m → wmE m k 0 0 5 (wmE m k 0 0 4 (wmE m k 0 0 3 (wmE m k 0 0 2 (false)))) = wmB m k 0 0 → f_L L [(5, fi (2)), (4, fi (0)), (3, fi (0)), (2, fi (b)), (0, .ref 55), (1, fi (k))] → x_W none (1, 0, 6, 1, 11, 3, 66, 0, 0, ev_t160) 54 L [] hc 0 0 (fun r' h' => r' = some (fi (wm1 m k 4 4 (iS 1 4) (wm1 m k 3 3 (iS 1 3) (wm1 m k 2 2 (iS 1 2) (wm1 m k 1 1 (iS 1 1) (wm1 m k 0 0 (iS 1 0) (b))))))) ∧ y_in yGw h' ∧ gi h' = m) := fun hc L hw hm hG hL => by
        refine f_il 0 rfl hL rfl ?_
        refine f_aln 4 rfl hL rfl ?_
        refine m_gfi so55 (m 55 21) rfl hw hm rfl rfl ?_
        refine f_ic rfl (by decide) (by omega) (fun ci => ?_) (fun ci => ?_)
        · have ci : (m 55 21 : Int) ≤ (2 : Int) := ci
          have e8 : wmE m k 0 0 5 (wmE m k 0 0 4 (wmE m k 0 0 3 (wmE m k 0 0 2 (false)))) = false := by unfold wmE; rw [if_neg (by omega), if_neg (by omega), if_neg (by omega), if_neg (by omega)]
          rw [e8] at hG
          refine f_iln 3 rfl hL rfl ?_
          refine f_il 1 rfl hL rfl ?_
          refine f_if rfl (by decide) (fun _ => ?_) (fun c_9 => absurd (show (0 : Int) = (0 : Int) from (by decide)) c_9)
          refine f_s [fi (0), fi (b)] rfl rfl ?_
          refine b_ior rfl ?_
          refine f_istn [(2, fi (iO (b) (0))), (5, fi (2)), (4, fi (0)), (3, fi (0)), (0, .ref 55), (1, fi (k))] rfl (by decide) hL rfl (fun L423 hL423 => ?_)
          refine f_inc 3 [(3, fi (1)), (2, fi (iO (b) (0))), (5, fi (2)), (4, fi (0)), (0, .ref 55), (1, fi (k))] rfl (by decide) hL423 rfl rfl (fun L424 hL424 => ?_)
          refine f_goto rfl ?_
          have e9 : wm1 m k 0 0 (iS 1 0) b = iO (b) (0) := (if_pos pp).trans (by rw [← hG, if_neg (by decide)])
          rw [e9]
          exact hK1 hc _ _ hw hm (hL424.sel [0, 1, 4, 5] rfl)
        · have ci : ¬ ((m 55 21 : Int) ≤ (2 : Int)) := ci
          refine f_il 1 rfl hL rfl ?_
          refine f_if rfl (by decide) (fun _ => ?_) (fun c_9 => absurd (show (0 : Int) = (0 : Int) from (by decide)) c_9)
          refine f_s [fi (0)] rfl rfl ?_
          refine f_ist [(4, fi (0)), (5, fi (2)), (3, fi (0)), (2, fi (b)), (0, .ref 55), (1, fi (k))] rfl (by decide) hL rfl (fun L425 hL425 => ?_)
          refine f_inc 1 [(5, fi (3)), (4, fi (0)), (3, fi (0)), (2, fi (b)), (0, .ref 55), (1, fi (k))] rfl (by decide) hL425 rfl rfl (fun L426 hL426 => ?_)
          refine f_goto rfl ?_
          have e9 : wmE m k 0 0 2 false = false := (if_pos (by omega)).trans (by rfl)
          rw [e9] at hG
          exact hI3_0 hc _ hw hm hG (hL426.sel [0, 1, 2, 3, 4, 5] rfl)
      have hI2_1 : ∀ (hc : ev_H) (L : ev_L), y_in yGw hc → gi hc = m → wmE m k 0 0 5 (wmE m k 0 0 4 (wmE m k 0 0 3 (wmE m k 0 0 2 (true)))) = wmB m k 0 0 → f_L L [(5, fi (2)), (4, fi (1)), (3, fi (0)), (2, fi (b)), (0, .ref 55), (1, fi (k))] → x_W none (1, 0, 6, 1, 11, 3, 66, 0, 0, ev_t160) 54 L [] hc 0 0 (fun r' h' => r' = some (fi (wm1 m k 4 4 (iS 1 4) (wm1 m k 3 3 (iS 1 3) (wm1 m k 2 2 (iS 1 2) (wm1 m k 1 1 (iS 1 1) (wm1 m k 0 0 (iS 1 0) (b))))))) ∧ y_in yGw h' ∧ gi h' = m) := fun hc L hw hm hG hL => by
        refine f_il 0 rfl hL rfl ?_
        refine f_aln 4 rfl hL rfl ?_
        refine m_gfi so55 (m 55 21) rfl hw hm rfl rfl ?_
        refine f_ic rfl (by decide) (by omega) (fun ci => ?_) (fun ci => ?_)
        · have ci : (m 55 21 : Int) ≤ (2 : Int) := ci
          have e8 : wmE m k 0 0 5 (wmE m k 0 0 4 (wmE m k 0 0 3 (wmE m k 0 0 2 (true)))) = true := by unfold wmE; rw [if_neg (by omega), if_neg (by omega), if_neg (by omega), if_neg (by omega)]
          rw [e8] at hG
          refine f_iln 3 rfl hL rfl ?_
          refine f_il 1 rfl hL rfl ?_
          refine f_if rfl (by decide) (fun c_9 => absurd (show (1 : Int) = (0 : Int) from c_9) (by decide)) (fun _ => ?_)
          refine f_s [fi (1), fi (b)] rfl rfl ?_
          refine f_iln 2 rfl hL rfl ?_
          refine b_ishl rfl ?_
          refine f_goto rfl ?_
          refine b_ior rfl ?_
          refine f_istn [(2, fi (iO (b) (iS (1) (0)))), (5, fi (2)), (4, fi (1)), (3, fi (0)), (0, .ref 55), (1, fi (k))] rfl (by decide) hL rfl (fun L427 hL427 => ?_)
          refine f_inc 3 [(3, fi (1)), (2, fi (iO (b) (iS (1) (0)))), (5, fi (2)), (4, fi (1)), (0, .ref 55), (1, fi (k))] rfl (by decide) hL427 rfl rfl (fun L428 hL428 => ?_)
          refine f_goto rfl ?_
          have e9 : wm1 m k 0 0 (iS 1 0) b = iO (b) (iS (1) (0)) := (if_pos pp).trans (by rw [← hG, if_pos rfl])
          rw [e9]
          exact hK1 hc _ _ hw hm (hL428.sel [0, 1, 4, 5] rfl)
        · have ci : ¬ ((m 55 21 : Int) ≤ (2 : Int)) := ci
          refine f_il 1 rfl hL rfl ?_
          refine f_if rfl (by decide) (fun c_9 => absurd (show (1 : Int) = (0 : Int) from c_9) (by decide)) (fun _ => ?_)
          refine f_aln 4 rfl hL rfl ?_
          refine m_gfr so55 rfl hw rfl (by decide) ?_
          refine f_il 0 rfl hL rfl ?_
          refine m_ia sa67 (m 67 2) rfl hw hm (by omega) (by omega) (by decide) rfl ?_
          refine f_s [fi (5), fi (m 67 2)] rfl rfl ?_
          refine f_iln 5 rfl hL rfl ?_
          refine f_iadd rfl ?_
          refine f_ic rfl (hR 67 2) (by omega) (fun c2 => ?_) (fun c2 => ?_)
          · have c2 : ¬ (m 67 2 : Int) = (5 + k : Int) := c2
            refine f_s [fi (1)] rfl rfl ?_
            refine f_goto rfl ?_
            refine f_ist [(4, fi (1)), (5, fi (2)), (3, fi (0)), (2, fi (b)), (0, .ref 55), (1, fi (k))] rfl (by decide) hL rfl (fun L429 hL429 => ?_)
            refine f_inc 1 [(5, fi (3)), (4, fi (1)), (3, fi (0)), (2, fi (b)), (0, .ref 55), (1, fi (k))] rfl (by decide) hL429 rfl rfl (fun L430 hL430 => ?_)
            refine f_goto rfl ?_
            have e9 : wmE m k 0 0 2 true = true := (if_pos (by omega)).trans (by rw [decide_eq_true c2]; rfl)
            rw [e9] at hG
            exact hI3_1 hc _ hw hm hG (hL430.sel [0, 1, 2, 3, 4, 5] rfl)
          · have c2 : ¬ (¬ (m 67 2 : Int) = (5 + k : Int)) := c2
            refine f_aln 4 rfl hL rfl ?_
            refine f_s [fi (0), .ref 55] rfl rfl ?_
            refine f_iln 2 rfl hL rfl ?_
            refine f_aln 4 rfl hL rfl ?_
            refine m_gfr so55 rfl hw rfl (by decide) ?_
            refine f_il 0 rfl hL rfl ?_
            refine m_ia sa68 (m 68 2) rfl hw hm (by omega) (by omega) (by decide) rfl ?_
            refine m_k1 (t90_0 (p := 0) (h := m 68 2) (by decide) (by decide) (hR 68 2) (fv := m 58 0) rfl (hR 58 _) (uv := m 59 0) rfl (hR 59 _)) hw hm rfl rfl rfl (m_ar so55 hw rfl) rfl (fun hc63 hw63 hm63 => ?_)
            have c2 : m 67 2 = 5 + k := by omega
            refine f_if rfl (bI_r _) (fun c3 => ?_) (fun c3 => ?_)
            · have c3 : (bI (decide (¬ iA (iR (m 61 16) (0)) (1) = 1 ∧ m 58 0 ≤ m 68 2 ∧ m 68 2 ≤ m 59 0)) : Int) = (0 : Int) := c3
              have c3 : ¬ (¬ iA (iR (m 61 16) (0)) (1) = 1 ∧ m 58 0 ≤ m 68 2 ∧ m 68 2 ≤ m 59 0) := bI_f c3
              refine f_s [fi (0)] rfl rfl ?_
              refine f_ist [(4, fi (0)), (5, fi (2)), (3, fi (0)), (2, fi (b)), (0, .ref 55), (1, fi (k))] rfl (by decide) hL rfl (fun L431 hL431 => ?_)
              refine f_inc 1 [(5, fi (3)), (4, fi (0)), (3, fi (0)), (2, fi (b)), (0, .ref 55), (1, fi (k))] rfl (by decide) hL431 rfl rfl (fun L432 hL432 => ?_)
              refine f_goto rfl ?_
              have e9 : wmE m k 0 0 2 true = false := (if_pos (by omega)).trans (by rw [decide_eq_false (fun z => z c2), decide_eq_false c3]; rfl)
              rw [e9] at hG
              exact hI3_0 hc63 _ hw63 hm63 hG (hL432.sel [0, 1, 2, 3, 4, 5] rfl)
            · have c3 : ¬ ((bI (decide (¬ iA (iR (m 61 16) (0)) (1) = 1 ∧ m 58 0 ≤ m 68 2 ∧ m 68 2 ≤ m 59 0)) : Int) = (0 : Int)) := c3
              have c3 : ¬ iA (iR (m 61 16) (0)) (1) = 1 ∧ m 58 0 ≤ m 68 2 ∧ m 68 2 ≤ m 59 0 := bI_t c3
              refine f_aln 4 rfl hL rfl ?_
              refine f_iln 2 rfl hL rfl ?_
              refine f_aln 4 rfl hL rfl ?_
              refine m_gfr so55 rfl hw63 rfl (by decide) ?_
              refine f_il 0 rfl hL rfl ?_
              refine m_ia sa68 (m 68 2) rfl hw63 hm63 (by omega) (by omega) (by decide) rfl ?_
              refine m_k1 (show h_M 159 [.ref 55, fi (0), fi (m 68 2)] m (some (fi (bI (sn m 0 (m 68 2))))) m from se_sn m 0 (m 68 2) ▸ t159 ht (by decide) (hR 68 2)) hw63 hm63 rfl rfl rfl (m_ar so55 hw63 rfl) rfl (fun hc64 hw64 hm64 => ?_)
              refine f_if rfl (bI_r _) (fun c4 => ?_) (fun c4 => ?_)
              · have c4 : ¬ (bI (sn m 0 (m 68 2)) : Int) = (0 : Int) := c4
                refine f_s [fi (0)] rfl rfl ?_
                refine f_ist [(4, fi (0)), (5, fi (2)), (3, fi (0)), (2, fi (b)), (0, .ref 55), (1, fi (k))] rfl (by decide) hL rfl (fun L433 hL433 => ?_)
                refine f_inc 1 [(5, fi (3)), (4, fi (0)), (3, fi (0)), (2, fi (b)), (0, .ref 55), (1, fi (k))] rfl (by decide) hL433 rfl rfl (fun L434 hL434 => ?_)
                refine f_goto rfl ?_
                have e9 : wmE m k 0 0 2 true = false := (if_pos (by omega)).trans (by rw [decide_eq_false (fun z => z c2), decide_eq_true c3, bI1 c4]; rfl)
                rw [e9] at hG
                exact hI3_0 hc64 _ hw64 hm64 hG (hL434.sel [0, 1, 2, 3, 4, 5] rfl)
              · have c4 : ¬ (¬ (bI (sn m 0 (m 68 2)) : Int) = (0 : Int)) := c4
                refine f_s [fi (1)] rfl rfl ?_
                refine f_goto rfl ?_
                refine f_ist [(4, fi (1)), (5, fi (2)), (3, fi (0)), (2, fi (b)), (0, .ref 55), (1, fi (k))] rfl (by decide) hL rfl (fun L435 hL435 => ?_)
                refine f_inc 1 [(5, fi (3)), (4, fi (1)), (3, fi (0)), (2, fi (b)), (0, .ref 55), (1, fi (k))] rfl (by decide) hL435 rfl rfl (fun L436 hL436 => ?_)
                refine f_goto rfl ?_
                have e9 : wmE m k 0 0 2 true = true := (if_pos (by omega)).trans (by rw [decide_eq_false (fun z => z c2), decide_eq_true c3, bI0 (Classical.byContradiction c4)]; rfl)
                rw [e9] at hG
                exact hI3_1 hc64 _ hw64 hm64 hG (hL436.sel [0, 1, 2, 3, 4, 5] rfl)
      have hI1_0 : ∀ (hc : ev_H) (L : ev_L), y_in yGw hc → gi hc = m → wmE m k 0 0 5 (wmE m k 0 0 4 (wmE m k 0 0 3 (wmE m k 0 0 2 (wmE m k 0 0 1 (false))))) = wmB m k 0 0 → f_L L [(5, fi (1)), (4, fi (0)), (3, fi (0)), (2, fi (b)), (0, .ref 55), (1, fi (k))] → x_W none (1, 0, 6, 1, 11, 3, 66, 0, 0, ev_t160) 54 L [] hc 0 0 (fun r' h' => r' = some (fi (wm1 m k 4 4 (iS 1 4) (wm1 m k 3 3 (iS 1 3) (wm1 m k 2 2 (iS 1 2) (wm1 m k 1 1 (iS 1 1) (wm1 m k 0 0 (iS 1 0) (b))))))) ∧ y_in yGw h' ∧ gi h' = m) := fun hc L hw hm hG hL => by
        refine f_il 0 rfl hL rfl ?_
        refine f_aln 4 rfl hL rfl ?_
        refine m_gfi so55 (m 55 21) rfl hw hm rfl rfl ?_
        refine f_ic rfl (by decide) (by omega) (fun ci => ?_) (fun ci => ?_)
        · have ci : (m 55 21 : Int) ≤ (1 : Int) := ci
          have e8 : wmE m k 0 0 5 (wmE m k 0 0 4 (wmE m k 0 0 3 (wmE m k 0 0 2 (wmE m k 0 0 1 (false))))) = false := by unfold wmE; rw [if_neg (by omega), if_neg (by omega), if_neg (by omega), if_neg (by omega), if_neg (by omega)]
          rw [e8] at hG
          refine f_iln 3 rfl hL rfl ?_
          refine f_il 1 rfl hL rfl ?_
          refine f_if rfl (by decide) (fun _ => ?_) (fun c_9 => absurd (show (0 : Int) = (0 : Int) from (by decide)) c_9)
          refine f_s [fi (0), fi (b)] rfl rfl ?_
          refine b_ior rfl ?_
          refine f_istn [(2, fi (iO (b) (0))), (5, fi (1)), (4, fi (0)), (3, fi (0)), (0, .ref 55), (1, fi (k))] rfl (by decide) hL rfl (fun L437 hL437 => ?_)
          refine f_inc 3 [(3, fi (1)), (2, fi (iO (b) (0))), (5, fi (1)), (4, fi (0)), (0, .ref 55), (1, fi (k))] rfl (by decide) hL437 rfl rfl (fun L438 hL438 => ?_)
          refine f_goto rfl ?_
          have e9 : wm1 m k 0 0 (iS 1 0) b = iO (b) (0) := (if_pos pp).trans (by rw [← hG, if_neg (by decide)])
          rw [e9]
          exact hK1 hc _ _ hw hm (hL438.sel [0, 1, 4, 5] rfl)
        · have ci : ¬ ((m 55 21 : Int) ≤ (1 : Int)) := ci
          refine f_il 1 rfl hL rfl ?_
          refine f_if rfl (by decide) (fun _ => ?_) (fun c_9 => absurd (show (0 : Int) = (0 : Int) from (by decide)) c_9)
          refine f_s [fi (0)] rfl rfl ?_
          refine f_ist [(4, fi (0)), (5, fi (1)), (3, fi (0)), (2, fi (b)), (0, .ref 55), (1, fi (k))] rfl (by decide) hL rfl (fun L439 hL439 => ?_)
          refine f_inc 1 [(5, fi (2)), (4, fi (0)), (3, fi (0)), (2, fi (b)), (0, .ref 55), (1, fi (k))] rfl (by decide) hL439 rfl rfl (fun L440 hL440 => ?_)
          refine f_goto rfl ?_
          have e9 : wmE m k 0 0 1 false = false := (if_pos (by omega)).trans (by rfl)
          rw [e9] at hG
          exact hI2_0 hc _ hw hm hG (hL440.sel [0, 1, 2, 3, 4, 5] rfl)
      have hI1_1 : ∀ (hc : ev_H) (L : ev_L), y_in yGw hc → gi hc = m → wmE m k 0 0 5 (wmE m k 0 0 4 (wmE m k 0 0 3 (wmE m k 0 0 2 (wmE m k 0 0 1 (true))))) = wmB m k 0 0 → f_L L [(5, fi (1)), (4, fi (1)), (3, fi (0)), (2, fi (b)), (0, .ref 55), (1, fi (k))] → x_W none (1, 0, 6, 1, 11, 3, 66, 0, 0, ev_t160) 54 L [] hc 0 0 (fun r' h' => r' = some (fi (wm1 m k 4 4 (iS 1 4) (wm1 m k 3 3 (iS 1 3) (wm1 m k 2 2 (iS 1 2) (wm1 m k 1 1 (iS 1 1) (wm1 m k 0 0 (iS 1 0) (b))))))) ∧ y_in yGw h' ∧ gi h' = m) := fun hc L hw hm hG hL => by
        refine f_il 0 rfl hL rfl ?_
        refine f_aln 4 rfl hL rfl ?_
        refine m_gfi so55 (m 55 21) rfl hw hm rfl rfl ?_
        refine f_ic rfl (by decide) (by omega) (fun ci => ?_) (fun ci => ?_)
        · have ci : (m 55 21 : Int) ≤ (1 : Int) := ci
          have e8 : wmE m k 0 0 5 (wmE m k 0 0 4 (wmE m k 0 0 3 (wmE m k 0 0 2 (wmE m k 0 0 1 (true))))) = true := by unfold wmE; rw [if_neg (by omega), if_neg (by omega), if_neg (by omega), if_neg (by omega), if_neg (by omega)]
          rw [e8] at hG
          refine f_iln 3 rfl hL rfl ?_
          refine f_il 1 rfl hL rfl ?_
          refine f_if rfl (by decide) (fun c_9 => absurd (show (1 : Int) = (0 : Int) from c_9) (by decide)) (fun _ => ?_)
          refine f_s [fi (1), fi (b)] rfl rfl ?_
          refine f_iln 2 rfl hL rfl ?_
          refine b_ishl rfl ?_
          refine f_goto rfl ?_
          refine b_ior rfl ?_
          refine f_istn [(2, fi (iO (b) (iS (1) (0)))), (5, fi (1)), (4, fi (1)), (3, fi (0)), (0, .ref 55), (1, fi (k))] rfl (by decide) hL rfl (fun L441 hL441 => ?_)
          refine f_inc 3 [(3, fi (1)), (2, fi (iO (b) (iS (1) (0)))), (5, fi (1)), (4, fi (1)), (0, .ref 55), (1, fi (k))] rfl (by decide) hL441 rfl rfl (fun L442 hL442 => ?_)
          refine f_goto rfl ?_
          have e9 : wm1 m k 0 0 (iS 1 0) b = iO (b) (iS (1) (0)) := (if_pos pp).trans (by rw [← hG, if_pos rfl])
          rw [e9]
          exact hK1 hc _ _ hw hm (hL442.sel [0, 1, 4, 5] rfl)
        · have ci : ¬ ((m 55 21 : Int) ≤ (1 : Int)) := ci
          refine f_il 1 rfl hL rfl ?_
          refine f_if rfl (by decide) (fun c_9 => absurd (show (1 : Int) = (0 : Int) from c_9) (by decide)) (fun _ => ?_)
          refine f_aln 4 rfl hL rfl ?_
          refine m_gfr so55 rfl hw rfl (by decide) ?_
          refine f_il 0 rfl hL rfl ?_
          refine m_ia sa67 (m 67 1) rfl hw hm (by omega) (by omega) (by decide) rfl ?_
          refine f_s [fi (5), fi (m 67 1)] rfl rfl ?_
          refine f_iln 5 rfl hL rfl ?_
          refine f_iadd rfl ?_
          refine f_ic rfl (hR 67 1) (by omega) (fun c2 => ?_) (fun c2 => ?_)
          · have c2 : ¬ (m 67 1 : Int) = (5 + k : Int) := c2
            refine f_s [fi (1)] rfl rfl ?_
            refine f_goto rfl ?_
            refine f_ist [(4, fi (1)), (5, fi (1)), (3, fi (0)), (2, fi (b)), (0, .ref 55), (1, fi (k))] rfl (by decide) hL rfl (fun L443 hL443 => ?_)
            refine f_inc 1 [(5, fi (2)), (4, fi (1)), (3, fi (0)), (2, fi (b)), (0, .ref 55), (1, fi (k))] rfl (by decide) hL443 rfl rfl (fun L444 hL444 => ?_)
            refine f_goto rfl ?_
            have e9 : wmE m k 0 0 1 true = true := (if_pos (by omega)).trans (by rw [decide_eq_true c2]; rfl)
            rw [e9] at hG
            exact hI2_1 hc _ hw hm hG (hL444.sel [0, 1, 2, 3, 4, 5] rfl)
          · have c2 : ¬ (¬ (m 67 1 : Int) = (5 + k : Int)) := c2
            refine f_aln 4 rfl hL rfl ?_
            refine f_s [fi (0), .ref 55] rfl rfl ?_
            refine f_iln 2 rfl hL rfl ?_
            refine f_aln 4 rfl hL rfl ?_
            refine m_gfr so55 rfl hw rfl (by decide) ?_
            refine f_il 0 rfl hL rfl ?_
            refine m_ia sa68 (m 68 1) rfl hw hm (by omega) (by omega) (by decide) rfl ?_
            refine m_k1 (t90_0 (p := 0) (h := m 68 1) (by decide) (by decide) (hR 68 1) (fv := m 58 0) rfl (hR 58 _) (uv := m 59 0) rfl (hR 59 _)) hw hm rfl rfl rfl (m_ar so55 hw rfl) rfl (fun hc65 hw65 hm65 => ?_)
            have c2 : m 67 1 = 5 + k := by omega
            refine f_if rfl (bI_r _) (fun c3 => ?_) (fun c3 => ?_)
            · have c3 : (bI (decide (¬ iA (iR (m 61 16) (0)) (1) = 1 ∧ m 58 0 ≤ m 68 1 ∧ m 68 1 ≤ m 59 0)) : Int) = (0 : Int) := c3
              have c3 : ¬ (¬ iA (iR (m 61 16) (0)) (1) = 1 ∧ m 58 0 ≤ m 68 1 ∧ m 68 1 ≤ m 59 0) := bI_f c3
              refine f_s [fi (0)] rfl rfl ?_
              refine f_ist [(4, fi (0)), (5, fi (1)), (3, fi (0)), (2, fi (b)), (0, .ref 55), (1, fi (k))] rfl (by decide) hL rfl (fun L445 hL445 => ?_)
              refine f_inc 1 [(5, fi (2)), (4, fi (0)), (3, fi (0)), (2, fi (b)), (0, .ref 55), (1, fi (k))] rfl (by decide) hL445 rfl rfl (fun L446 hL446 => ?_)
              refine f_goto rfl ?_
              have e9 : wmE m k 0 0 1 true = false := (if_pos (by omega)).trans (by rw [decide_eq_false (fun z => z c2), decide_eq_false c3]; rfl)
              rw [e9] at hG
              exact hI2_0 hc65 _ hw65 hm65 hG (hL446.sel [0, 1, 2, 3, 4, 5] rfl)
            · have c3 : ¬ ((bI (decide (¬ iA (iR (m 61 16) (0)) (1) = 1 ∧ m 58 0 ≤ m 68 1 ∧ m 68 1 ≤ m 59 0)) : Int) = (0 : Int)) := c3
              have c3 : ¬ iA (iR (m 61 16) (0)) (1) = 1 ∧ m 58 0 ≤ m 68 1 ∧ m 68 1 ≤ m 59 0 := bI_t c3
              refine f_aln 4 rfl hL rfl ?_
              refine f_iln 2 rfl hL rfl ?_
              refine f_aln 4 rfl hL rfl ?_
              refine m_gfr so55 rfl hw65 rfl (by decide) ?_
              refine f_il 0 rfl hL rfl ?_
              refine m_ia sa68 (m 68 1) rfl hw65 hm65 (by omega) (by omega) (by decide) rfl ?_
              refine m_k1 (show h_M 159 [.ref 55, fi (0), fi (m 68 1)] m (some (fi (bI (sn m 0 (m 68 1))))) m from se_sn m 0 (m 68 1) ▸ t159 ht (by decide) (hR 68 1)) hw65 hm65 rfl rfl rfl (m_ar so55 hw65 rfl) rfl (fun hc66 hw66 hm66 => ?_)
              refine f_if rfl (bI_r _) (fun c4 => ?_) (fun c4 => ?_)
              · have c4 : ¬ (bI (sn m 0 (m 68 1)) : Int) = (0 : Int) := c4
                refine f_s [fi (0)] rfl rfl ?_
                refine f_ist [(4, fi (0)), (5, fi (1)), (3, fi (0)), (2, fi (b)), (0, .ref 55), (1, fi (k))] rfl (by decide) hL rfl (fun L447 hL447 => ?_)
                refine f_inc 1 [(5, fi (2)), (4, fi (0)), (3, fi (0)), (2, fi (b)), (0, .ref 55), (1, fi (k))] rfl (by decide) hL447 rfl rfl (fun L448 hL448 => ?_)
                refine f_goto rfl ?_
                have e9 : wmE m k 0 0 1 true = false := (if_pos (by omega)).trans (by rw [decide_eq_false (fun z => z c2), decide_eq_true c3, bI1 c4]; rfl)
                rw [e9] at hG
                exact hI2_0 hc66 _ hw66 hm66 hG (hL448.sel [0, 1, 2, 3, 4, 5] rfl)
              · have c4 : ¬ (¬ (bI (sn m 0 (m 68 1)) : Int) = (0 : Int)) := c4
                refine f_s [fi (1)] rfl rfl ?_
                refine f_goto rfl ?_
                refine f_ist [(4, fi (1)), (5, fi (1)), (3, fi (0)), (2, fi (b)), (0, .ref 55), (1, fi (k))] rfl (by decide) hL rfl (fun L449 hL449 => ?_)
                refine f_inc 1 [(5, fi (2)), (4, fi (1)), (3, fi (0)), (2, fi (b)), (0, .ref 55), (1, fi (k))] rfl (by decide) hL449 rfl rfl (fun L450 hL450 => ?_)
                refine f_goto rfl ?_
                have e9 : wmE m k 0 0 1 true = true := (if_pos (by omega)).trans (by rw [decide_eq_false (fun z => z c2), decide_eq_true c3, bI0 (Classical.byContradiction c4)]; rfl)
                rw [e9] at hG
                exact hI2_1 hc66 _ hw66 hm66 hG (hL450.sel [0, 1, 2, 3, 4, 5] rfl)
      have hI0_0 : ∀ (hc : ev_H) (L : ev_L), y_in yGw hc → gi hc = m → wmE m k 0 0 5 (wmE m k 0 0 4 (wmE m k 0 0 3 (wmE m k 0 0 2 (wmE m k 0 0 1 (wmE m k 0 0 0 (false)))))) = wmB m k 0 0 → f_L L [(5, fi (0)), (4, fi (0)), (3, fi (0)), (2, fi (b)), (0, .ref 55), (1, fi (k))] → x_W none (1, 0, 6, 1, 11, 3, 66, 0, 0, ev_t160) 54 L [] hc 0 0 (fun r' h' => r' = some (fi (wm1 m k 4 4 (iS 1 4) (wm1 m k 3 3 (iS 1 3) (wm1 m k 2 2 (iS 1 2) (wm1 m k 1 1 (iS 1 1) (wm1 m k 0 0 (iS 1 0) (b))))))) ∧ y_in yGw h' ∧ gi h' = m) := fun hc L hw hm hG hL => by
        refine f_il 0 rfl hL rfl ?_
        refine f_aln 4 rfl hL rfl ?_
        refine m_gfi so55 (m 55 21) rfl hw hm rfl rfl ?_
        refine f_ic rfl (by decide) (by omega) (fun ci => ?_) (fun ci => ?_)
        · have ci : (m 55 21 : Int) ≤ (0 : Int) := ci
          have e8 : wmE m k 0 0 5 (wmE m k 0 0 4 (wmE m k 0 0 3 (wmE m k 0 0 2 (wmE m k 0 0 1 (wmE m k 0 0 0 (false)))))) = false := by unfold wmE; rw [if_neg (by omega), if_neg (by omega), if_neg (by omega), if_neg (by omega), if_neg (by omega), if_neg (by omega)]
          rw [e8] at hG
          refine f_iln 3 rfl hL rfl ?_
          refine f_il 1 rfl hL rfl ?_
          refine f_if rfl (by decide) (fun _ => ?_) (fun c_9 => absurd (show (0 : Int) = (0 : Int) from (by decide)) c_9)
          refine f_s [fi (0), fi (b)] rfl rfl ?_
          refine b_ior rfl ?_
          refine f_istn [(2, fi (iO (b) (0))), (5, fi (0)), (4, fi (0)), (3, fi (0)), (0, .ref 55), (1, fi (k))] rfl (by decide) hL rfl (fun L451 hL451 => ?_)
          refine f_inc 3 [(3, fi (1)), (2, fi (iO (b) (0))), (5, fi (0)), (4, fi (0)), (0, .ref 55), (1, fi (k))] rfl (by decide) hL451 rfl rfl (fun L452 hL452 => ?_)
          refine f_goto rfl ?_
          have e9 : wm1 m k 0 0 (iS 1 0) b = iO (b) (0) := (if_pos pp).trans (by rw [← hG, if_neg (by decide)])
          rw [e9]
          exact hK1 hc _ _ hw hm (hL452.sel [0, 1, 4, 5] rfl)
        · have ci : ¬ ((m 55 21 : Int) ≤ (0 : Int)) := ci
          refine f_il 1 rfl hL rfl ?_
          refine f_if rfl (by decide) (fun _ => ?_) (fun c_9 => absurd (show (0 : Int) = (0 : Int) from (by decide)) c_9)
          refine f_s [fi (0)] rfl rfl ?_
          refine f_ist [(4, fi (0)), (5, fi (0)), (3, fi (0)), (2, fi (b)), (0, .ref 55), (1, fi (k))] rfl (by decide) hL rfl (fun L453 hL453 => ?_)
          refine f_inc 1 [(5, fi (1)), (4, fi (0)), (3, fi (0)), (2, fi (b)), (0, .ref 55), (1, fi (k))] rfl (by decide) hL453 rfl rfl (fun L454 hL454 => ?_)
          refine f_goto rfl ?_
          have e9 : wmE m k 0 0 0 false = false := (if_pos (by omega)).trans (by rfl)
          rw [e9] at hG
          exact hI1_0 hc _ hw hm hG (hL454.sel [0, 1, 2, 3, 4, 5] rfl)
      have hI0_1 : ∀ (hc : ev_H) (L : ev_L), y_in yGw hc → gi hc = m → wmE m k 0 0 5 (wmE m k 0 0 4 (wmE m k 0 0 3 (wmE m k 0 0 2 (wmE m k 0 0 1 (wmE m k 0 0 0 (true)))))) = wmB m k 0 0 → f_L L [(5, fi (0)), (4, fi (1)), (3, fi (0)), (2, fi (b)), (0, .ref 55), (1, fi (k))] → x_W none (1, 0, 6, 1, 11, 3, 66, 0, 0, ev_t160) 54 L [] hc 0 0 (fun r' h' => r' = some (fi (wm1 m k 4 4 (iS 1 4) (wm1 m k 3 3 (iS 1 3) (wm1 m k 2 2 (iS 1 2) (wm1 m k 1 1 (iS 1 1) (wm1 m k 0 0 (iS 1 0) (b))))))) ∧ y_in yGw h' ∧ gi h' = m) := fun hc L hw hm hG hL => by
        refine f_il 0 rfl hL rfl ?_
        refine f_aln 4 rfl hL rfl ?_
        refine m_gfi so55 (m 55 21) rfl hw hm rfl rfl ?_
        refine f_ic rfl (by decide) (by omega) (fun ci => ?_) (fun ci => ?_)
        · have ci : (m 55 21 : Int) ≤ (0 : Int) := ci
          have e8 : wmE m k 0 0 5 (wmE m k 0 0 4 (wmE m k 0 0 3 (wmE m k 0 0 2 (wmE m k 0 0 1 (wmE m k 0 0 0 (true)))))) = true := by unfold wmE; rw [if_neg (by omega), if_neg (by omega), if_neg (by omega), if_neg (by omega), if_neg (by omega), if_neg (by omega)]
          rw [e8] at hG
          refine f_iln 3 rfl hL rfl ?_
          refine f_il 1 rfl hL rfl ?_
          refine f_if rfl (by decide) (fun c_9 => absurd (show (1 : Int) = (0 : Int) from c_9) (by decide)) (fun _ => ?_)
          refine f_s [fi (1), fi (b)] rfl rfl ?_
          refine f_iln 2 rfl hL rfl ?_
          refine b_ishl rfl ?_
          refine f_goto rfl ?_
          refine b_ior rfl ?_
          refine f_istn [(2, fi (iO (b) (iS (1) (0)))), (5, fi (0)), (4, fi (1)), (3, fi (0)), (0, .ref 55), (1, fi (k))] rfl (by decide) hL rfl (fun L455 hL455 => ?_)
          refine f_inc 3 [(3, fi (1)), (2, fi (iO (b) (iS (1) (0)))), (5, fi (0)), (4, fi (1)), (0, .ref 55), (1, fi (k))] rfl (by decide) hL455 rfl rfl (fun L456 hL456 => ?_)
          refine f_goto rfl ?_
          have e9 : wm1 m k 0 0 (iS 1 0) b = iO (b) (iS (1) (0)) := (if_pos pp).trans (by rw [← hG, if_pos rfl])
          rw [e9]
          exact hK1 hc _ _ hw hm (hL456.sel [0, 1, 4, 5] rfl)
        · have ci : ¬ ((m 55 21 : Int) ≤ (0 : Int)) := ci
          refine f_il 1 rfl hL rfl ?_
          refine f_if rfl (by decide) (fun c_9 => absurd (show (1 : Int) = (0 : Int) from c_9) (by decide)) (fun _ => ?_)
          refine f_aln 4 rfl hL rfl ?_
          refine m_gfr so55 rfl hw rfl (by decide) ?_
          refine f_il 0 rfl hL rfl ?_
          refine m_ia sa67 (m 67 0) rfl hw hm (by omega) (by omega) (by decide) rfl ?_
          refine f_s [fi (5), fi (m 67 0)] rfl rfl ?_
          refine f_iln 5 rfl hL rfl ?_
          refine f_iadd rfl ?_
          refine f_ic rfl (hR 67 0) (by omega) (fun c2 => ?_) (fun c2 => ?_)
          · have c2 : ¬ (m 67 0 : Int) = (5 + k : Int) := c2
            refine f_s [fi (1)] rfl rfl ?_
            refine f_goto rfl ?_
            refine f_ist [(4, fi (1)), (5, fi (0)), (3, fi (0)), (2, fi (b)), (0, .ref 55), (1, fi (k))] rfl (by decide) hL rfl (fun L457 hL457 => ?_)
            refine f_inc 1 [(5, fi (1)), (4, fi (1)), (3, fi (0)), (2, fi (b)), (0, .ref 55), (1, fi (k))] rfl (by decide) hL457 rfl rfl (fun L458 hL458 => ?_)
            refine f_goto rfl ?_
            have e9 : wmE m k 0 0 0 true = true := (if_pos (by omega)).trans (by rw [decide_eq_true c2]; rfl)
            rw [e9] at hG
            exact hI1_1 hc _ hw hm hG (hL458.sel [0, 1, 2, 3, 4, 5] rfl)
          · have c2 : ¬ (¬ (m 67 0 : Int) = (5 + k : Int)) := c2
            refine f_aln 4 rfl hL rfl ?_
            refine f_s [fi (0), .ref 55] rfl rfl ?_
            refine f_iln 2 rfl hL rfl ?_
            refine f_aln 4 rfl hL rfl ?_
            refine m_gfr so55 rfl hw rfl (by decide) ?_
            refine f_il 0 rfl hL rfl ?_
            refine m_ia sa68 (m 68 0) rfl hw hm (by omega) (by omega) (by decide) rfl ?_
            refine m_k1 (t90_0 (p := 0) (h := m 68 0) (by decide) (by decide) (hR 68 0) (fv := m 58 0) rfl (hR 58 _) (uv := m 59 0) rfl (hR 59 _)) hw hm rfl rfl rfl (m_ar so55 hw rfl) rfl (fun hc67 hw67 hm67 => ?_)
            have c2 : m 67 0 = 5 + k := by omega
            refine f_if rfl (bI_r _) (fun c3 => ?_) (fun c3 => ?_)
            · have c3 : (bI (decide (¬ iA (iR (m 61 16) (0)) (1) = 1 ∧ m 58 0 ≤ m 68 0 ∧ m 68 0 ≤ m 59 0)) : Int) = (0 : Int) := c3
              have c3 : ¬ (¬ iA (iR (m 61 16) (0)) (1) = 1 ∧ m 58 0 ≤ m 68 0 ∧ m 68 0 ≤ m 59 0) := bI_f c3
              refine f_s [fi (0)] rfl rfl ?_
              refine f_ist [(4, fi (0)), (5, fi (0)), (3, fi (0)), (2, fi (b)), (0, .ref 55), (1, fi (k))] rfl (by decide) hL rfl (fun L459 hL459 => ?_)
              refine f_inc 1 [(5, fi (1)), (4, fi (0)), (3, fi (0)), (2, fi (b)), (0, .ref 55), (1, fi (k))] rfl (by decide) hL459 rfl rfl (fun L460 hL460 => ?_)
              refine f_goto rfl ?_
              have e9 : wmE m k 0 0 0 true = false := (if_pos (by omega)).trans (by rw [decide_eq_false (fun z => z c2), decide_eq_false c3]; rfl)
              rw [e9] at hG
              exact hI1_0 hc67 _ hw67 hm67 hG (hL460.sel [0, 1, 2, 3, 4, 5] rfl)
            · have c3 : ¬ ((bI (decide (¬ iA (iR (m 61 16) (0)) (1) = 1 ∧ m 58 0 ≤ m 68 0 ∧ m 68 0 ≤ m 59 0)) : Int) = (0 : Int)) := c3
              have c3 : ¬ iA (iR (m 61 16) (0)) (1) = 1 ∧ m 58 0 ≤ m 68 0 ∧ m 68 0 ≤ m 59 0 := bI_t c3
              refine f_aln 4 rfl hL rfl ?_
              refine f_iln 2 rfl hL rfl ?_
              refine f_aln 4 rfl hL rfl ?_
              refine m_gfr so55 rfl hw67 rfl (by decide) ?_
              refine f_il 0 rfl hL rfl ?_
              refine m_ia sa68 (m 68 0) rfl hw67 hm67 (by omega) (by omega) (by decide) rfl ?_
              refine m_k1 (show h_M 159 [.ref 55, fi (0), fi (m 68 0)] m (some (fi (bI (sn m 0 (m 68 0))))) m from se_sn m 0 (m 68 0) ▸ t159 ht (by decide) (hR 68 0)) hw67 hm67 rfl rfl rfl (m_ar so55 hw67 rfl) rfl (fun hc68 hw68 hm68 => ?_)
              refine f_if rfl (bI_r _) (fun c4 => ?_) (fun c4 => ?_)
              · have c4 : ¬ (bI (sn m 0 (m 68 0)) : Int) = (0 : Int) := c4
                refine f_s [fi (0)] rfl rfl ?_
                refine f_ist [(4, fi (0)), (5, fi (0)), (3, fi (0)), (2, fi (b)), (0, .ref 55), (1, fi (k))] rfl (by decide) hL rfl (fun L461 hL461 => ?_)
                refine f_inc 1 [(5, fi (1)), (4, fi (0)), (3, fi (0)), (2, fi (b)), (0, .ref 55), (1, fi (k))] rfl (by decide) hL461 rfl rfl (fun L462 hL462 => ?_)
                refine f_goto rfl ?_
                have e9 : wmE m k 0 0 0 true = false := (if_pos (by omega)).trans (by rw [decide_eq_false (fun z => z c2), decide_eq_true c3, bI1 c4]; rfl)
                rw [e9] at hG
                exact hI1_0 hc68 _ hw68 hm68 hG (hL462.sel [0, 1, 2, 3, 4, 5] rfl)
              · have c4 : ¬ (¬ (bI (sn m 0 (m 68 0)) : Int) = (0 : Int)) := c4
                refine f_s [fi (1)] rfl rfl ?_
                refine f_goto rfl ?_
                refine f_ist [(4, fi (1)), (5, fi (0)), (3, fi (0)), (2, fi (b)), (0, .ref 55), (1, fi (k))] rfl (by decide) hL rfl (fun L463 hL463 => ?_)
                refine f_inc 1 [(5, fi (1)), (4, fi (1)), (3, fi (0)), (2, fi (b)), (0, .ref 55), (1, fi (k))] rfl (by decide) hL463 rfl rfl (fun L464 hL464 => ?_)
                refine f_goto rfl ?_
                have e9 : wmE m k 0 0 0 true = true := (if_pos (by omega)).trans (by rw [decide_eq_false (fun z => z c2), decide_eq_true c3, bI0 (Classical.byContradiction c4)]; rfl)
                rw [e9] at hG
                exact hI1_1 hc68 _ hw68 hm68 hG (hL464.sel [0, 1, 2, 3, 4, 5] rfl)
      refine f_aln 2 rfl hL rfl ?_
      refine f_s [fi (0), .ref 55] rfl rfl ?_
      refine f_iln 0 rfl hL rfl ?_
      refine m_k1 (t74_0 (by decide)) hw hm rfl rfl rfl (m_ar so55 hw rfl) rfl (fun hc69 hw69 hm69 => ?_)
      refine f_if rfl (bI_r _) (fun d1 => ?_) (fun d1 => ?_)
      · have d1 : ¬ (bI (decide (iA (iR (m 61 16) (0)) (1) = 1)) : Int) = (0 : Int) := d1
        have d1 : iA (iR (m 61 16) (0)) (1) = 1 := bI_t d1
        refine f_s [fi (0)] rfl rfl ?_
        refine f_ist [(4, fi (0)), (3, fi (0)), (2, fi (b)), (0, .ref 55), (1, fi (k))] rfl (by decide) hL rfl (fun L465 hL465 => ?_)
        refine f_s [fi (0)] rfl rfl ?_
        refine f_ist [(5, fi (0)), (4, fi (0)), (3, fi (0)), (2, fi (b)), (0, .ref 55), (1, fi (k))] rfl (by decide) hL465 rfl (fun L466 hL466 => ?_)
        have e7 : false = decide (¬ iA (iR (m 61 16) 0) 1 = 1 ∧ iA (iR (m 60 0) k) 1 = 1) := (decide_eq_false (fun z => z.1 d1)).symm
        exact hI0_0 hc69 _ hw69 hm69 (by rw [e7]; rfl) (hL466.sel [0, 1, 2, 3, 4, 5] rfl)
      · have d1 : ¬ (¬ (bI (decide (iA (iR (m 61 16) (0)) (1) = 1)) : Int) = (0 : Int)) := d1
        have d1 : ¬ (iA (iR (m 61 16) (0)) (1) = 1) := bI_n d1
        refine f_aln 2 rfl hL rfl ?_
        refine m_gfr so55 rfl hw69 rfl (by decide) ?_
        refine f_iln 0 rfl hL rfl ?_
        refine m_ia sa60 (m 60 0) rfl hw69 hm69 (by omega) (by omega) (by decide) rfl ?_
        refine f_iln 3 rfl hL rfl ?_
        refine m_k1 (t73 (hR 60 0) rk) hw69 hm69 rfl rfl rfl rfl rfl (fun hc70 hw70 hm70 => ?_)
        refine f_if rfl (bI_r _) (fun d2 => ?_) (fun d2 => ?_)
        · have d2 : (bI (decide (iA (iR (m 60 0) (k)) (1) = 1)) : Int) = (0 : Int) := d2
          have d2 : ¬ (iA (iR (m 60 0) (k)) (1) = 1) := bI_f d2
          refine f_s [fi (0)] rfl rfl ?_
          refine f_ist [(4, fi (0)), (3, fi (0)), (2, fi (b)), (0, .ref 55), (1, fi (k))] rfl (by decide) hL rfl (fun L467 hL467 => ?_)
          refine f_s [fi (0)] rfl rfl ?_
          refine f_ist [(5, fi (0)), (4, fi (0)), (3, fi (0)), (2, fi (b)), (0, .ref 55), (1, fi (k))] rfl (by decide) hL467 rfl (fun L468 hL468 => ?_)
          have e7 : false = decide (¬ iA (iR (m 61 16) 0) 1 = 1 ∧ iA (iR (m 60 0) k) 1 = 1) := (decide_eq_false (fun z => d2 z.2)).symm
          exact hI0_0 hc70 _ hw70 hm70 (by rw [e7]; rfl) (hL468.sel [0, 1, 2, 3, 4, 5] rfl)
        · have d2 : ¬ ((bI (decide (iA (iR (m 60 0) (k)) (1) = 1)) : Int) = (0 : Int)) := d2
          have d2 : iA (iR (m 60 0) (k)) (1) = 1 := bI_t d2
          refine f_s [fi (1)] rfl rfl ?_
          refine f_goto rfl ?_
          refine f_ist [(4, fi (1)), (3, fi (0)), (2, fi (b)), (0, .ref 55), (1, fi (k))] rfl (by decide) hL rfl (fun L469 hL469 => ?_)
          refine f_s [fi (0)] rfl rfl ?_
          refine f_ist [(5, fi (0)), (4, fi (1)), (3, fi (0)), (2, fi (b)), (0, .ref 55), (1, fi (k))] rfl (by decide) hL469 rfl (fun L470 hL470 => ?_)
          have e7 : true = decide (¬ iA (iR (m 61 16) 0) 1 = 1 ∧ iA (iR (m 60 0) k) 1 = 1) := (decide_eq_true ⟨d1, d2⟩).symm
          exact hI0_1 hc70 _ hw70 hm70 (by rw [e7]; rfl) (hL470.sel [0, 1, 2, 3, 4, 5] rfl)
  refine f_aln 0 rfl hL rfl ?_
  refine f_iln 1 rfl hL rfl ?_
  refine m_k1 (t46 hn.1 hn.2 rk) hw hm rfl rfl rfl (m_ar so55 hw rfl) rfl (fun hc71 hw71 hm71 => ?_)
  refine f_if rfl (bI_r _) (fun _ => ?_) (fun c_9 => absurd (show ¬ (bI (decide (0 ≤ k ∧ k < m 55 0)) : Int) = (0 : Int) from (by rw [decide_eq_true h0]; decide)) c_9)
  refine f_s [fi (0)] rfl rfl ?_
  refine f_istn [(2, fi (0)), (0, .ref 55), (1, fi (k))] rfl (by decide) hL rfl (fun L471 hL471 => ?_)
  refine f_s [fi (0)] rfl rfl ?_
  refine f_istn [(3, fi (0)), (2, fi (0)), (0, .ref 55), (1, fi (k))] rfl (by decide) hL471 rfl (fun L472 hL472 => ?_)
  exact hK0 hc71 0 _ hw71 hm71 (hL472.sel [0, 1, 2, 3] rfl))
theorem sn_at (m : Nat → Nat → Int) (o : Int) {t : Int} (h0 : 0 ≤ t ∧ t ≤ 9) : iA (iR (snA m o) t) 1 = bI (sn m o t) := by
  have : t = 0 ∨ t = 1 ∨ t = 2 ∨ t = 3 ∨ t = 4 ∨ t = 5 ∨ t = 6 ∨ t = 7 ∨ t = 8 ∨ t = 9 := by omega
  unfold snA
  rcases this with rfl | rfl | rfl | rfl | rfl | rfl | rfl | rfl | rfl | rfl
  · exact bA_0 _ _ _ _ _ _ _ _ _ _
  · exact bA_1 _ _ _ _ _ _ _ _ _ _
  · exact bA_2 _ _ _ _ _ _ _ _ _ _
  · exact bA_3 _ _ _ _ _ _ _ _ _ _
  · exact bA_4 _ _ _ _ _ _ _ _ _ _
  · exact bA_5 _ _ _ _ _ _ _ _ _ _
  · exact bA_6 _ _ _ _ _ _ _ _ _ _
  · exact bA_7 _ _ _ _ _ _ _ _ _ _
  · exact bA_8 _ _ _ _ _ _ _ _ _ _
  · exact bA_9 _ _ _ _ _ _ _ _ _ _
theorem sn_ex {m : Nat → Nat → Int} {o t : Int} (h : sn m o t = true) : ∃ e : Nat, e < 6 ∧ (e : Int) < m 55 21 ∧ m 67 e = o ∧ m 68 e = t := by
  unfold sn at h
  simp only [Bool.or_eq_true] at h
  rcases h with ((((h | h) | h) | h) | h) | h
  · exact ⟨0, by decide, of_decide_eq_true h⟩
  · exact ⟨1, by decide, of_decide_eq_true h⟩
  · exact ⟨2, by decide, of_decide_eq_true h⟩
  · exact ⟨3, by decide, of_decide_eq_true h⟩
  · exact ⟨4, by decide, of_decide_eq_true h⟩
  · exact ⟨5, by decide, of_decide_eq_true h⟩
theorem sn_of {m : Nat → Nat → Int} {o t : Int} {e : Nat} (he : e < 6) (h : (e : Int) < m 55 21 ∧ m 67 e = o ∧ m 68 e = t) : sn m o t = true := by
  have h9 : snE m o t e = true := decide_eq_true h
  unfold sn
  have : e = 0 ∨ e = 1 ∨ e = 2 ∨ e = 3 ∨ e = 4 ∨ e = 5 := by omega
  rcases this with rfl | rfl | rfl | rfl | rfl | rfl <;> simp [h9]
theorem wmB_iff (m : Nat → Nat → Int) (k p : Int) (i : Nat) : wmB m k p i = true ↔ (¬ iA (iR (m 61 16) p) 1 = 1 ∧ iA (iR (m 60 i) k) 1 = 1) ∧ ∀ e : Nat, e < 6 → (e : Int) < m 55 21 → (¬ m 67 e = 5 + k ∨ ((¬ iA (iR (m 61 16) p) 1 = 1 ∧ m 58 i ≤ m 68 e ∧ m 68 e ≤ m 59 i) ∧ sn m p (m 68 e) = false)) := by
  have st : ∀ (e : Nat) (a : Bool), wmE m k p i e a = true ↔ a = true ∧ ((e : Int) < m 55 21 → (¬ m 67 e = 5 + k ∨ ((¬ iA (iR (m 61 16) p) 1 = 1 ∧ m 58 i ≤ m 68 e ∧ m 68 e ≤ m 59 i) ∧ sn m p (m 68 e) = false))) := fun e a => by
    unfold wmE
    by_cases c : (e : Int) < m 55 21
    · rw [if_pos c]
      simp only [Bool.and_eq_true, Bool.or_eq_true, decide_eq_true_eq, Bool.not_eq_true']
      exact ⟨fun z => ⟨z.1, fun _ => z.2⟩, fun z => ⟨z.1, z.2 c⟩⟩
    · rw [if_neg c]
      exact ⟨fun z => ⟨z, fun y => absurd y c⟩, fun z => z.1⟩
  unfold wmB
  rw [st, st, st, st, st, st, decide_eq_true_eq]
  constructor
  · rintro ⟨⟨⟨⟨⟨⟨a, e0⟩, e1⟩, e2⟩, e3⟩, e4⟩, e5⟩
    refine ⟨a, fun e he hl => ?_⟩
    have : e = 0 ∨ e = 1 ∨ e = 2 ∨ e = 3 ∨ e = 4 ∨ e = 5 := by omega
    rcases this with rfl | rfl | rfl | rfl | rfl | rfl
    · exact e0 hl
    · exact e1 hl
    · exact e2 hl
    · exact e3 hl
    · exact e4 hl
    · exact e5 hl
  · rintro ⟨a, h⟩
    exact ⟨⟨⟨⟨⟨⟨a, h 0 (by decide)⟩, h 1 (by decide)⟩, h 2 (by decide)⟩, h 3 (by decide)⟩, h 4 (by decide)⟩, h 5 (by decide)⟩
theorem cd_iff (m : Nat → Nat → Int) (x k : Int) : cd0 m x k = true ↔ ∀ t : Int, 0 ≤ t ∧ t ≤ 9 → cdT m x k t = true := by
  unfold cd0 cd1 cd2 cd3 cd4 cd5 cd6 cd7 cd8 cd9 cd10
  simp only [Bool.and_eq_true, Bool.and_true]
  constructor
  · rintro ⟨h0, h1, h2, h3, h4, h5, h6, h7, h8, h9⟩ t ht
    have : t = 0 ∨ t = 1 ∨ t = 2 ∨ t = 3 ∨ t = 4 ∨ t = 5 ∨ t = 6 ∨ t = 7 ∨ t = 8 ∨ t = 9 := by omega
    rcases this with rfl | rfl | rfl | rfl | rfl | rfl | rfl | rfl | rfl | rfl
    all_goals assumption
  · intro h
    exact ⟨h 0 (by decide), h 1 (by decide), h 2 (by decide), h 3 (by decide), h 4 (by decide), h 5 (by decide), h 6 (by decide), h 7 (by decide), h 8 (by decide), h 9 (by decide)⟩
theorem wh_eq {m : Nat → Nat → Int} (hP : PR m) (hR : SR0 m) (hC : CLR m) {k : Int} (hk : 0 ≤ k ∧ k < m 3 5) {i : Nat} (hi : i < 5) {x : Int} (hx : (i : Int) = x) : wsB m k x = (decide (x < m 55 1) && wmB m k x i) := by
  subst hx
  have hn := hP.2.1.1
  by_cases c : (i : Int) < m 3 6
  · have q := hP.2.2.2 i hi c
    have ef : ft m (i : Int) = m 60 i := by
      have := ft_eq hP (x := (i : Int)) ⟨by omega, c⟩
      rw [Int.toNat_natCast] at this
      exact this
    rw [decide_eq_true (show (i : Int) < m 55 1 by rw [← hP.1.2]; exact c), Bool.true_and]
    rw [Bool.eq_iff_iff, wmB_iff]
    unfold wsB
    rw [Bool.and_eq_true, decide_eq_true_eq, cd_iff, ef, hR.g.2.1]
    have d40 : m 40 k.toNat = snA m (5 + k) := by
      have := hC.2.1 k.toNat (by omega)
      rw [show 5 + ((k.toNat : Nat) : Int) = 5 + k by omega] at this
      exact this
    have d39 : m 39 i = snA m (i : Int) := hC.1 i hi
    have cT : ∀ t : Int, 0 ≤ t ∧ t ≤ 9 → (cdT m (i : Int) k t = true ↔ (sn m (5 + k) t = true → (sn m (i : Int) t = false ∧ m 58 i ≤ t ∧ t ≤ m 59 i))) := fun t ht => by
      unfold cdT
      rw [Int.toNat_natCast, d40, d39, sn_at m _ ht, sn_at m _ ht, ← q.1, ← q.2.1]
      cases sn m (5 + k) t
      · exact ⟨fun _ z => absurd z (by decide), fun _ => rfl⟩
      · cases sn m (i : Int) t
        · rw [decide_eq_true (show bI true = 1 from rfl), decide_eq_false (show ¬ bI false = 1 by decide), Bool.false_or, Bool.true_and, Bool.not_not, decide_eq_true_eq]
          exact ⟨fun z _ => ⟨rfl, z.2⟩, fun z => ⟨⟨by omega, c⟩, (z rfl).2⟩⟩
        · rw [decide_eq_true (show bI true = 1 from rfl), Bool.true_or]
          exact ⟨fun z => absurd z (by decide), fun z => absurd (z rfl).1 (by decide)⟩
    constructor
    · rintro ⟨⟨_, g, f⟩, cd⟩
      have ng : ¬ iA (iR (m 61 16) (i : Int)) 1 = 1 := fun y => g ⟨⟨by omega, c⟩, y⟩
      refine ⟨⟨ng, f⟩, fun e he hl => ?_⟩
      by_cases c5 : m 67 e = 5 + k
      · have tr := hC.2.2 e he hl
        obtain ⟨s1, s2⟩ := (cT (m 68 e) tr).mp (cd _ tr) (sn_of he ⟨hl, c5, rfl⟩)
        exact Or.inr ⟨⟨ng, s2⟩, s1⟩
      · exact Or.inl c5
    · rintro ⟨⟨g, f⟩, h⟩
      refine ⟨⟨hk, fun y => g y.2, f⟩, fun t ht => (cT t ht).mpr (fun hs => ?_)⟩
      obtain ⟨e, he, hl, h5, h8⟩ := sn_ex hs
      rcases h e he hl with z | z
      · exact absurd h5 z
      · rw [h8] at z
        exact ⟨z.2, z.1.2⟩
  · rw [decide_eq_false (show ¬ (i : Int) < m 55 1 by rw [← hP.1.2]; exact c), Bool.false_and]
    unfold wsB
    have : ft m (i : Int) = 0 := if_neg (fun z => c z.2)
    rw [this, decide_eq_false (fun z => ?_), Bool.false_and]
    have z2 := z.2.2
    have key : ∀ k : Fin 4, ¬ iA (iR 0 ((k.val : Nat) : Int)) 1 = 1 := by decide
    have := key ⟨k.toNat, by omega⟩
    rw [show ((⟨k.toNat, by omega⟩ : Fin 4).val : Int) = k by show ((k.toNat : Nat) : Int) = k; omega] at this
    exact this z2
theorem wm1_b {m : Nat → Nat → Int} {k p : Int} {i : Nat} {s b : Int} (h : -2147483648 ≤ b ∧ b ≤ 2147483647) : wm1 m k p i s b = bS (decide (p < m 55 1) && wmB m k p i) s b := by
  unfold wm1
  by_cases c1 : p < m 55 1
  · rw [if_pos c1, decide_eq_true c1, Bool.true_and]
    cases wmB m k p i
    · rw [if_neg (by decide), iO_0 h]; rfl
    · rw [if_pos rfl]; rfl
  · rw [if_neg c1, decide_eq_false c1, Bool.false_and]; rfl
theorem who_eq {m : Nat → Nat → Int} (hP : PR m) (hR : SR0 m) (hC : CLR m) {k : Int} (hk : 0 ≤ k ∧ k < m 3 5) : ws m k = wm1 m k 4 4 (iS 1 4) (wm1 m k 3 3 (iS 1 3) (wm1 m k 2 2 (iS 1 2) (wm1 m k 1 1 (iS 1 1) (wm1 m k 0 0 (iS 1 0) (0))))) := by
  unfold ws
  have e0 : wsB m k 0 = _ := wh_eq hP hR hC hk (i := 0) (by decide) rfl
  have e1 : wsB m k 1 = _ := wh_eq hP hR hC hk (i := 1) (by decide) rfl
  have e2 : wsB m k 2 = _ := wh_eq hP hR hC hk (i := 2) (by decide) rfl
  have e3 : wsB m k 3 = _ := wh_eq hP hR hC hk (i := 3) (by decide) rfl
  have e4 : wsB m k 4 = _ := wh_eq hP hR hC hk (i := 4) (by decide) rfl
  rw [e0, e1, e2, e3, e4]
  rw [wm1_b (i := 0) r0, wm1_b (i := 1) (bS_r r0), wm1_b (i := 2) (bS_r (bS_r r0)), wm1_b (i := 3) (bS_r (bS_r (bS_r r0))), wm1_b (i := 4) (bS_r (bS_r (bS_r (bS_r r0))))]
  rfl
theorem SI_who {hc : ev_H} (hin : y_in yG hc) (hS : SI (gi hc)) (hC : CLR (gi hc)) {k : Int} (rk : -2147483648 ≤ k ∧ k ≤ 2147483647) : ∃ rr hc1 fs1 hc2, (-2147483648 ≤ rr ∧ rr ≤ 2147483647) ∧ f_M 158 [.ref 0, fi k] hc (some (fi rr)) hc1 ∧ hc1[55]? = some (.inr (.inr (10, fs1))) ∧ f_M 160 [.ref 55, fi k] hc1 (some (fi rr)) hc2 ∧ y_in yG hc2 ∧ SI (gi hc2) ∧ y_un yct158_0.2.2 hc hc1 ∧ y_un yct160_0.2.2 hc1 hc2 := by
  obtain ⟨hP, hR, hA, hK⟩ := id hS
  have hn := hP.2.1.1
  have hp := hP.2.1.2
  have hJ := hR.j hP
  by_cases hk : 0 ≤ k ∧ k < gi hc 3 5
  · exact SI_call (RC := ev_r158) (RM := ev_r160) rfl rfl yc158_0 yc160_0 f_a2 f_a2 hin (t158_ok hn hp rk hk) (t160_ok hJ.1 hJ.2.1 (g_tl hin) rk (by rw [← hP.1.1]; exact hk)) (who_eq hP hR hC hk) hS
  · exact SI_call (RC := ev_r158) (RM := ev_r160) rfl rfl yc158_0 yc160_0 f_a2 f_a2 hin (t158_un hn rk hk) (t160_un hJ.1 rk (by rw [← hP.1.1]; exact hk)) rfl hS
theorem CLR_see2 {hc : ev_H} (hin : y_in yG hc) (hN : NR (gi hc)) (hC : CR (gi hc)) (hL : CLR (gi hc)) {x h : Int} (rx : -2147483648 ≤ x ∧ x ≤ 2147483647) (rh : -2147483648 ≤ h ∧ h ≤ 2147483647) : ∃ rr hc1 fs1 hc2, (-2147483648 ≤ rr ∧ rr ≤ 2147483647) ∧ f_M 147 [.ref 0, fi x, fi h] hc (some (fi rr)) hc1 ∧ hc1[55]? = some (.inr (.inr (10, fs1))) ∧ f_M 149 [.ref 55, fi x, fi h] hc1 (some (fi rr)) hc2 ∧ y_in yG hc2 ∧ (CR (gi hc2) ∧ CLR (gi hc2)) ∧ y_un yct147_0.2.2 hc hc1 ∧ y_un yct149_0.2.2 hc1 hc2 := by
  have hw := y_win hin
  have a1 := g_cl hin
  have a2 := g_tl hin
  have a3 := g_pp hin
  have a4 := g_ppM hin
  have hN := hN.2
  have hC : gi hc 38 2 = gi hc 55 21 := hC
  have core : ∃ rr hc1 hc2, (-2147483648 ≤ rr ∧ rr ≤ 2147483647) ∧ f_M 147 [.ref 0, fi x, fi h] hc (some (fi rr)) hc1 ∧ f_M 149 [.ref 55, fi x, fi h] hc1 (some (fi rr)) hc2 ∧ CR (gi hc2) ∧ CLR (gi hc2) := by
    by_cases hp : 0 ≤ x ∧ x < gi hc 3 6
    · have hp' : 0 ≤ x ∧ x < gi hc 55 1 := by omega
      by_cases hh : 0 ≤ h ∧ h < 10
      · by_cases hs : gi hc 38 2 < 6
        · obtain ⟨hc1, m1, hw1, e1⟩ := t147_ok (m := gi hc) a3.2 a1.1 a1.2 rx rh hp hh hs hc hw rfl
          have e21 : gi hc1 55 21 = gi hc 55 21 := by rw [e1]; rfl
          have ef : gi hc1 55 1 = gi hc 55 1 := by rw [e1]; rfl
          obtain ⟨hc2, m2, hw2, e2⟩ := t149_ok (m := gi hc1) (by omega) (by omega) (by omega) (by omega) rx rh (by omega) hh (by omega) hc1 hw1 rfl
          refine ⟨gi hc 38 2 + 1, hc1, hc2, by omega, m1, by rw [show gi hc 38 2 + 1 = gi hc1 55 21 + 1 by omega]; exact m2, ?_, CLR_see hL (by omega) (by omega) hh e1 e2⟩
          have b1 : gi hc2 38 2 = gi hc 38 2 + 1 := by rw [e2]; show gi hc1 38 2 = _; rw [e1]; rfl
          have b2 : gi hc2 55 21 = gi hc1 55 21 + 1 := by rw [e2]; rfl
          show gi hc2 38 2 = gi hc2 55 21
          omega
        · obtain ⟨hc1, m1, hw1, e1⟩ := t147_full (m := gi hc) a3.2 a1.1 a1.2 rx rh hp hh hs hc hw rfl
          obtain ⟨hc2, m2, hw2, e2⟩ := t149_full (m := gi hc1) (by rw [e1]; omega) (by rw [e1]; omega) (by rw [e1]; omega) (by rw [e1]; omega) rx rh (by rw [e1]; omega) hh (by rw [e1]; omega) hc1 hw1 rfl
          exact ⟨-4, hc1, hc2, by decide, m1, m2, by rw [e2, e1]; exact hC, by rw [e2, e1]; exact hL⟩
      · obtain ⟨hc1, m1, hw1, e1⟩ := t147_out (m := gi hc) a3.2 a1.1 a1.2 rx rh hp hh hc hw rfl
        obtain ⟨hc2, m2, hw2, e2⟩ := t149_out (m := gi hc1) (by rw [e1]; omega) (by rw [e1]; omega) (by rw [e1]; omega) (by rw [e1]; omega) rx rh (by rw [e1]; omega) hh hc1 hw1 rfl
        exact ⟨-2, hc1, hc2, by decide, m1, m2, by rw [e2, e1]; exact hC, by rw [e2, e1]; exact hL⟩
    · obtain ⟨hc1, m1, hw1, e1⟩ := t147_unk (m := gi hc) a3.2 a1.1 a1.2 rx rh hp hc hw rfl
      obtain ⟨hc2, m2, hw2, e2⟩ := t149_unk (m := gi hc1) (by rw [e1]; omega) (by rw [e1]; omega) (by rw [e1]; omega) (by rw [e1]; omega) rx rh (by rw [e1]; omega) hc1 hw1 rfl
      exact ⟨-1, hc1, hc2, by decide, m1, m2, by rw [e2, e1]; exact hC, by rw [e2, e1]; exact hL⟩
  obtain ⟨rr, hc1, hc2, r0, m1, m2, cr, cl⟩ := core
  obtain ⟨hin1, hun1⟩ := f_Mu (R := ev_r147) rfl yc147_0 hin g_args3' m1
  obtain ⟨hin2, hun2⟩ := f_Mu (R := ev_r149) rfl yc149_0 hin1 g_args3' m2
  obtain ⟨fs1, q55⟩ := g_55 hin1
  exact ⟨rr, hc1, fs1, hc2, r0, m1, q55, m2, hin2, ⟨cr, cl⟩, hun1, hun2⟩
theorem CLR_deed2 {hc : ev_H} (hin : y_in yG hc) (hN : NR (gi hc)) (hC : CR (gi hc)) (hL : CLR (gi hc)) {x h : Int} (rx : -2147483648 ≤ x ∧ x ≤ 2147483647) (rh : -2147483648 ≤ h ∧ h ≤ 2147483647) : ∃ rr hc1 fs1 hc2, (-2147483648 ≤ rr ∧ rr ≤ 2147483647) ∧ f_M 151 [.ref 0, fi x, fi h] hc (some (fi rr)) hc1 ∧ hc1[55]? = some (.inr (.inr (10, fs1))) ∧ f_M 152 [.ref 55, fi x, fi h] hc1 (some (fi rr)) hc2 ∧ y_in yG hc2 ∧ (CR (gi hc2) ∧ CLR (gi hc2)) ∧ y_un yct151_0.2.2 hc hc1 ∧ y_un yct152_0.2.2 hc1 hc2 := by
  have hw := y_win hin
  have a1 := g_cl hin
  have a2 := g_tl hin
  have a3 := g_nm hin
  have a4 := g_nmM hin
  have hN := hN.1
  have hC : gi hc 38 2 = gi hc 55 21 := hC
  have core : ∃ rr hc1 hc2, (-2147483648 ≤ rr ∧ rr ≤ 2147483647) ∧ f_M 151 [.ref 0, fi x, fi h] hc (some (fi rr)) hc1 ∧ f_M 152 [.ref 55, fi x, fi h] hc1 (some (fi rr)) hc2 ∧ CR (gi hc2) ∧ CLR (gi hc2) := by
    by_cases hp : 0 ≤ x ∧ x < gi hc 3 5
    · have hp' : 0 ≤ x ∧ x < gi hc 55 0 := by omega
      by_cases hh : 0 ≤ h ∧ h < 10
      · by_cases hs : gi hc 38 2 < 6
        · obtain ⟨hc1, m1, hw1, e1⟩ := t151_ok (m := gi hc) a3.2 a1.1 a1.2 rx rh hp hh hs hc hw rfl
          have e21 : gi hc1 55 21 = gi hc 55 21 := by rw [e1]; rfl
          have ef : gi hc1 55 0 = gi hc 55 0 := by rw [e1]; rfl
          obtain ⟨hc2, m2, hw2, e2⟩ := t152_ok (m := gi hc1) (by omega) (by omega) (by omega) (by omega) rx rh (by omega) hh (by omega) hc1 hw1 rfl
          refine ⟨gi hc 38 2 + 1, hc1, hc2, by omega, m1, by rw [show gi hc 38 2 + 1 = gi hc1 55 21 + 1 by omega]; exact m2, ?_, CLR_deed hL (by omega) (by omega) hh e1 e2⟩
          have b1 : gi hc2 38 2 = gi hc 38 2 + 1 := by rw [e2]; show gi hc1 38 2 = _; rw [e1]; rfl
          have b2 : gi hc2 55 21 = gi hc1 55 21 + 1 := by rw [e2]; rfl
          show gi hc2 38 2 = gi hc2 55 21
          omega
        · obtain ⟨hc1, m1, hw1, e1⟩ := t151_full (m := gi hc) a3.2 a1.1 a1.2 rx rh hp hh hs hc hw rfl
          obtain ⟨hc2, m2, hw2, e2⟩ := t152_full (m := gi hc1) (by rw [e1]; omega) (by rw [e1]; omega) (by rw [e1]; omega) (by rw [e1]; omega) rx rh (by rw [e1]; omega) hh (by rw [e1]; omega) hc1 hw1 rfl
          exact ⟨-4, hc1, hc2, by decide, m1, m2, by rw [e2, e1]; exact hC, by rw [e2, e1]; exact hL⟩
      · obtain ⟨hc1, m1, hw1, e1⟩ := t151_out (m := gi hc) a3.2 a1.1 a1.2 rx rh hp hh hc hw rfl
        obtain ⟨hc2, m2, hw2, e2⟩ := t152_out (m := gi hc1) (by rw [e1]; omega) (by rw [e1]; omega) (by rw [e1]; omega) (by rw [e1]; omega) rx rh (by rw [e1]; omega) hh hc1 hw1 rfl
        exact ⟨-2, hc1, hc2, by decide, m1, m2, by rw [e2, e1]; exact hC, by rw [e2, e1]; exact hL⟩
    · obtain ⟨hc1, m1, hw1, e1⟩ := t151_unk (m := gi hc) a3.2 a1.1 a1.2 rx rh hp hc hw rfl
      obtain ⟨hc2, m2, hw2, e2⟩ := t152_unk (m := gi hc1) (by rw [e1]; omega) (by rw [e1]; omega) (by rw [e1]; omega) (by rw [e1]; omega) rx rh (by rw [e1]; omega) hc1 hw1 rfl
      exact ⟨-1, hc1, hc2, by decide, m1, m2, by rw [e2, e1]; exact hC, by rw [e2, e1]; exact hL⟩
  obtain ⟨rr, hc1, hc2, r0, m1, m2, cr, cl⟩ := core
  obtain ⟨hin1, hun1⟩ := f_Mu (R := ev_r151) rfl yc151_0 hin g_args3' m1
  obtain ⟨hin2, hun2⟩ := f_Mu (R := ev_r152) rfl yc152_0 hin1 g_args3' m2
  obtain ⟨fs1, q55⟩ := g_55 hin1
  exact ⟨rr, hc1, fs1, hc2, r0, m1, q55, m2, hin2, ⟨cr, cl⟩, hun1, hun2⟩
theorem CLR_forget2 {hc : ev_H} (hin : y_in yG hc) (hC : CR (gi hc)) : ∃ rr hc1 fs1 hc2, (-2147483648 ≤ rr ∧ rr ≤ 2147483647) ∧ f_M 154 [.ref 0] hc (some (fi rr)) hc1 ∧ hc1[55]? = some (.inr (.inr (10, fs1))) ∧ f_M 155 [.ref 55] hc1 (some (fi rr)) hc2 ∧ y_in yG hc2 ∧ (CR (gi hc2) ∧ CLR (gi hc2)) ∧ y_un yct154_0.2.2 hc hc1 ∧ y_un yct155_0.2.2 hc1 hc2 := by
  have hC : gi hc 38 2 = gi hc 55 21 := hC
  have a1 := g_cl hin
  obtain ⟨hc1, m1, hw1, e1⟩ := t154 (m := gi hc) hc (y_win hin) rfl
  have e21 : gi hc1 55 21 = gi hc 55 21 := by rw [e1]; rfl
  obtain ⟨hc2, m2, hw2, e2⟩ := t155 (m := gi hc1) hc1 hw1 rfl
  obtain ⟨hin1, hun1⟩ := f_Mu (R := ev_r154) rfl yc154_0 hin g_args1' m1
  obtain ⟨hin2, hun2⟩ := f_Mu (R := ev_r155) rfl yc155_0 hin1 g_args1' m2
  obtain ⟨fs1, q55⟩ := g_55 hin1
  refine ⟨gi hc 38 2, hc1, fs1, hc2, by omega, m1, q55, by rw [hC, ← e21]; exact m2, hin2, ⟨?_, CLR_0 ?_ (fun p hp => ?_) (fun k hk => ?_)⟩, hun1, hun2⟩
  · show gi hc2 38 2 = gi hc2 55 21
    rw [e2, up_eq, up_nc (by decide), e1]
    rfl
  · rw [e2, up_eq]
  · rw [e2, up_nc (by decide), e1]
    have : p = 0 ∨ p = 1 ∨ p = 2 ∨ p = 3 ∨ p = 4 := by omega
    rcases this with rfl | rfl | rfl | rfl | rfl <;> rfl
  · rw [e2, up_nc (by decide), e1]
    have : k = 0 ∨ k = 1 ∨ k = 2 ∨ k = 3 := by omega
    rcases this with rfl | rfl | rfl | rfl <;> rfl
