/-! both scenes are alike -/
def bS (c : Bool) (s b : Int) : Int := match c with
  | true => iO b s
  | false => b
theorem bS_i {C : Prop} [Decidable C] {s b : Int} : (if C then iO b s else b) = bS (decide C) s b := by
  by_cases h : C
  · rw [if_pos h, decide_eq_true h]; rfl
  · rw [if_neg h, decide_eq_false h]; rfl
theorem bS_r {c : Bool} {s b : Int} (h : -2147483648 ≤ b ∧ b ≤ 2147483647) : -2147483648 ≤ bS c s b ∧ bS c s b ≤ 2147483647 := by
  cases c
  · exact h
  · exact iO_r
def bits5 (a b c d e : Bool) : Int := bS e (iS 1 4) (bS d (iS 1 3) (bS c (iS 1 2) (bS b (iS 1 1) (bS a (iS 1 0) 0))))
def bits4 (a b c d : Bool) : Int := bS d (iS 1 3) (bS c (iS 1 2) (bS b (iS 1 1) (bS a (iS 1 0) 0)))
theorem b5_0 : ∀ a b c d e : Bool, iA (iR (bits5 a b c d e) 0) 1 = bI a := by decide +kernel
theorem b5_1 : ∀ a b c d e : Bool, iA (iR (bits5 a b c d e) 1) 1 = bI b := by decide +kernel
theorem b5_2 : ∀ a b c d e : Bool, iA (iR (bits5 a b c d e) 2) 1 = bI c := by decide +kernel
theorem b5_3 : ∀ a b c d e : Bool, iA (iR (bits5 a b c d e) 3) 1 = bI d := by decide +kernel
theorem b5_4 : ∀ a b c d e : Bool, iA (iR (bits5 a b c d e) 4) 1 = bI e := by decide +kernel
theorem b5_C : ∀ a b c d e : Bool, bC (bits5 a b c d e) = bI a + bI b + bI c + bI d + bI e := by decide +kernel
theorem b5_on : ∀ a b c d e : Bool, onS (bits5 a b c d e) = bI a + bI b + bI c + bI d + bI e := by decide +kernel
theorem b5_z : ∀ a b c d e : Bool, decide (¬ bits5 a b c d e = 0) = (a || b || c || d || e) := by decide +kernel
theorem b5_nb : ∀ a b c d e a' b' c' d' e' : Bool, iA (bits5 a b c d e) (iX (bits5 a' b' c' d' e') (-1)) = bits5 (a && !a') (b && !b') (c && !c') (d && !d') (e && !e') := by decide +kernel
theorem b4_s0 : ∀ a b c d : Bool, iO (bits4 a b c d) (iS 1 0) = bits4 true b c d := by decide +kernel
theorem b4_s1 : ∀ a b c d : Bool, iO (bits4 a b c d) (iS 1 1) = bits4 a true c d := by decide +kernel
theorem b4_s2 : ∀ a b c d : Bool, iO (bits4 a b c d) (iS 1 2) = bits4 a b true d := by decide +kernel
theorem b4_s3 : ∀ a b c d : Bool, iO (bits4 a b c d) (iS 1 3) = bits4 a b c true := by decide +kernel
theorem b4_o0 : ∀ a b c d : Bool, decide (¬ iA (bits4 a b c d) (iX (iS 1 0) (-1)) = 0) = (b || c || d) := by decide +kernel
theorem b4_o1 : ∀ a b c d : Bool, decide (¬ iA (bits4 a b c d) (iX (iS 1 1) (-1)) = 0) = (a || c || d) := by decide +kernel
theorem b4_o2 : ∀ a b c d : Bool, decide (¬ iA (bits4 a b c d) (iX (iS 1 2) (-1)) = 0) = (a || b || d) := by decide +kernel
theorem b4_o3 : ∀ a b c d : Bool, decide (¬ iA (bits4 a b c d) (iX (iS 1 3) (-1)) = 0) = (a || b || c) := by decide +kernel
theorem b4_f : bits4 false false false false = 0 := by decide +kernel
theorem iO_0 {b : Int} (h : -2147483648 ≤ b ∧ b ≤ 2147483647) : iO b 0 = b := by
  have e : iO b 0 = (Int32.ofInt b).toInt := by
    show (Int32.ofInt b ||| Int32.ofInt 0).toInt = _
    rw [show Int32.ofInt 0 = 0 from rfl, Int32.or_zero]
  rw [e]
  exact x_i32 h.1 h.2
theorem wr_bits (m : Nat → Nat → Int) (w : Nat) (k : Int) : wr m w k = bits5 (decide (m w 0 = k)) (decide (m w 1 = k)) (decide (m w 2 = k)) (decide (m w 3 = k)) (decide (m w 4 = k)) := by
  unfold wr wr1 bits5
  simp only [bS_i]
theorem dw1_b {m : Nat → Nat → Int} {i : Nat} {k p s b : Int} (h : -2147483648 ≤ b ∧ b ≤ 2147483647) : dw1 m i k p s b = bS (decide (p < m 55 1 ∧ m 61 i = k)) s b := by
  unfold dw1
  by_cases c1 : p < m 55 1
  · rw [if_pos c1]
    by_cases c2 : m 61 i = k
    · rw [if_pos c2, decide_eq_true ⟨c1, c2⟩]; rfl
    · rw [if_neg c2, decide_eq_false (fun z => c2 z.2), iO_0 h]; rfl
  · rw [if_neg c1, decide_eq_false (fun z => c1 z.1)]; rfl
theorem r0 : (-2147483648 : Int) ≤ 0 ∧ (0 : Int) ≤ 2147483647 := by decide
theorem dw0_bits (m : Nat → Nat → Int) (k : Int) : dw0 m k = bits5 (decide (0 < m 55 1 ∧ m 61 0 = k)) (decide (1 < m 55 1 ∧ m 61 1 = k)) (decide (2 < m 55 1 ∧ m 61 2 = k)) (decide (3 < m 55 1 ∧ m 61 3 = k)) (decide (4 < m 55 1 ∧ m 61 4 = k)) := by
  unfold dw0 bits5
  rw [dw1_b (i := 0) r0, dw1_b (i := 1) (bS_r r0), dw1_b (i := 2) (bS_r (bS_r r0)), dw1_b (i := 3) (bS_r (bS_r (bS_r r0))), dw1_b (i := 4) (bS_r (bS_r (bS_r (bS_r r0))))]
theorem dw18_bits (m : Nat → Nat → Int) (k : Int) : dw18 m k = bits5 (decide (0 < m 55 1 ∧ m 61 18 = k)) (decide (1 < m 55 1 ∧ m 61 19 = k)) (decide (2 < m 55 1 ∧ m 61 20 = k)) (decide (3 < m 55 1 ∧ m 61 21 = k)) (decide (4 < m 55 1 ∧ m 61 22 = k)) := by
  unfold dw18 bits5
  rw [dw1_b (i := 18) r0, dw1_b (i := 19) (bS_r r0), dw1_b (i := 20) (bS_r (bS_r r0)), dw1_b (i := 21) (bS_r (bS_r (bS_r r0))), dw1_b (i := 22) (bS_r (bS_r (bS_r (bS_r r0))))]
/-- two scenes of eighteen numbers are alike -/
def sR (n P : Int) (c d : Nat → Int) : Prop := (∀ i : Nat, i < 5 → (i : Int) < P → c i = d i ∧ c (5 + i) = d (5 + i) ∧ c (10 + i) = d (10 + i)) ∧ (c 15 = d 15 ∧ c 16 = d 16 ∧ c 17 = d 17) ∧ (∀ i : Nat, i < 5 → (c i = -9 ∨ (0 ≤ c i ∧ c i < n))) ∧ (∀ i : Nat, i < 5 → P ≤ (i : Int) → c i = -9 ∧ c (10 + i) = 0)
theorem sR_congr {n P n' P' : Int} {c d c' d' : Nat → Int} (h : sR n P c d) (en : n' = n) (eP : P' = P) (ec : ∀ i, i < 18 → c' i = c i) (ed : ∀ i, i < 18 → d' i = d i) : sR n' P' c' d' := by
  subst en
  subst eP
  obtain ⟨h1, ⟨h2, h3, h4⟩, h5, h6⟩ := h
  refine ⟨fun i hi hp => ?_, ⟨?_, ?_, ?_⟩, fun i hi => ?_, fun i hi hp => ?_⟩
  · rw [ec i (by omega), ec (5 + i) (by omega), ec (10 + i) (by omega), ed i (by omega), ed (5 + i) (by omega), ed (10 + i) (by omega)]; exact h1 i hi hp
  · rw [ec 15 (by decide), ed 15 (by decide)]; exact h2
  · rw [ec 16 (by decide), ed 16 (by decide)]; exact h3
  · rw [ec 17 (by decide), ed 17 (by decide)]; exact h4
  · rw [ec i (by omega)]; exact h5 i hi
  · rw [ec i (by omega), ec (10 + i) (by omega)]; exact h6 i hi hp
theorem cV_w {m : Nat → Nat → Int} {S i : Nat} (hi : i < 5) : cV m S i = m (S + 1) i := if_pos hi
theorem cV_h {m : Nat → Nat → Int} {S i : Nat} (hi : i < 5) : cV m S (5 + i) = m (S + 2) i := by
  unfold cV
  rw [if_neg (by omega), if_pos (by omega), show 5 + i - 5 = i by omega]
theorem cV_a {m : Nat → Nat → Int} {S i : Nat} (hi : i < 5) : cV m S (10 + i) = m (S + 3) i := by
  unfold cV
  rw [if_neg (by omega), if_neg (by omega), if_pos (by omega), show 10 + i - 10 = i by omega]
theorem cV_congr {m m' : Nat → Nat → Int} {S : Nat} (h1 : ∀ i, i < 5 → m' (S + 1) i = m (S + 1) i) (h2 : ∀ i, i < 5 → m' (S + 2) i = m (S + 2) i) (h3 : ∀ i, i < 5 → m' (S + 3) i = m (S + 3) i) (h4 : ∀ i, 4 ≤ i → i ≤ 6 → m' S i = m S i) : ∀ i, i < 18 → cV m' S i = cV m S i := fun i hi => by
  unfold cV
  split
  · exact h1 i (by omega)
  · split
    · exact h2 _ (by omega)
    · split
      · exact h3 _ (by omega)
      · exact h4 _ (by omega) (by omega)
/-- plans are alike -/
def PR (m : Nat → Nat → Int) : Prop := (m 3 5 = m 55 0 ∧ m 3 6 = m 55 1) ∧ ((0 ≤ m 3 5 ∧ m 3 5 ≤ 4) ∧ (0 ≤ m 3 6 ∧ m 3 6 ≤ 5)) ∧ (∀ k : Nat, k < 4 → (k : Int) < m 3 5 → m 4 k = m 56 k ∧ m 5 k = m 57 k) ∧ (∀ p : Nat, p < 5 → (p : Int) < m 3 6 → m 6 p = m 58 p ∧ m 7 p = m 59 p ∧ m 60 p = iA (m 8 p) (iS 1 (m 3 5) - 1))
theorem kd_i {m : Nat → Nat → Int} {x : Int} (h : 0 ≤ x ∧ x < m 3 5) : kd m x = m 4 x.toNat := if_pos h
theorem kd_o {m : Nat → Nat → Int} {x : Int} (h : ¬ (0 ≤ x ∧ x < m 3 5)) : kd m x = 0 := if_neg h
theorem PR.kdE {m : Nat → Nat → Int} (h : PR m) {x : Int} (hx : 0 ≤ x ∧ x < m 3 5) : kd m x = m 56 x.toNat := by
  rw [kd_i hx]
  exact (h.2.2.1 x.toNat (by have := h.2.1.1; omega) (by omega)).1
theorem PR.rmE {m : Nat → Nat → Int} (h : PR m) {x : Int} (hx : 0 ≤ x ∧ x < m 3 5) : rm m x = rmM m x := by
  unfold rm rmM
  rw [h.kdE hx]
theorem kd_congr {m m' : Nat → Nat → Int} (h5 : m' 3 5 = m 3 5) (h4 : ∀ i, m' 4 i = m 4 i) (x : Int) : kd m' x = kd m x := by
  unfold kd
  rw [h5, h4]
def hB (m : Nat → Nat → Int) (w p : Nat) (e : Int) : Bool := decide (m w p = e ∧ kd m e = 1)
theorem hv1_b {m : Nat → Nat → Int} {w p : Nat} (hv : m w p = -9 ∨ (0 ≤ m w p ∧ m w p < 4)) (a b c d : Bool) : hv1 m w p (bits4 a b c d) = bits4 (a || hB m w p 0) (b || hB m w p 1) (c || hB m w p 2) (d || hB m w p 3) := by
  have no : ∀ e : Int, ¬ m w p = e → hB m w p e = false := fun e he => decide_eq_false (fun z => he z.1)
  have cs : m w p = -9 ∨ m w p = 0 ∨ m w p = 1 ∨ m w p = 2 ∨ m w p = 3 := by omega
  unfold hv1
  rcases cs with e | e | e | e | e
  · rw [if_neg (fun z => z.1 e), no 0 (by omega), no 1 (by omega), no 2 (by omega), no 3 (by omega)]
    simp only [Bool.or_false]
  · rw [no 1 (by omega), no 2 (by omega), no 3 (by omega)]
    by_cases hk : kd m 0 = 1
    · rw [if_pos ⟨by omega, by rw [e]; exact hk⟩, e, b4_s0, show hB m w p 0 = true from decide_eq_true ⟨e, hk⟩]
      simp only [Bool.or_false, Bool.or_true]
    · rw [if_neg (fun z => hk (by rw [e] at z; exact z.2)), show hB m w p 0 = false from decide_eq_false (fun z => hk z.2)]
      simp only [Bool.or_false]
  · rw [no 0 (by omega), no 2 (by omega), no 3 (by omega)]
    by_cases hk : kd m 1 = 1
    · rw [if_pos ⟨by omega, by rw [e]; exact hk⟩, e, b4_s1, show hB m w p 1 = true from decide_eq_true ⟨e, hk⟩]
      simp only [Bool.or_false, Bool.or_true]
    · rw [if_neg (fun z => hk (by rw [e] at z; exact z.2)), show hB m w p 1 = false from decide_eq_false (fun z => hk z.2)]
      simp only [Bool.or_false]
  · rw [no 0 (by omega), no 1 (by omega), no 3 (by omega)]
    by_cases hk : kd m 2 = 1
    · rw [if_pos ⟨by omega, by rw [e]; exact hk⟩, e, b4_s2, show hB m w p 2 = true from decide_eq_true ⟨e, hk⟩]
      simp only [Bool.or_false, Bool.or_true]
    · rw [if_neg (fun z => hk (by rw [e] at z; exact z.2)), show hB m w p 2 = false from decide_eq_false (fun z => hk z.2)]
      simp only [Bool.or_false]
  · rw [no 0 (by omega), no 1 (by omega), no 2 (by omega)]
    by_cases hk : kd m 3 = 1
    · rw [if_pos ⟨by omega, by rw [e]; exact hk⟩, e, b4_s3, show hB m w p 3 = true from decide_eq_true ⟨e, hk⟩]
      simp only [Bool.or_false, Bool.or_true]
    · rw [if_neg (fun z => hk (by rw [e] at z; exact z.2)), show hB m w p 3 = false from decide_eq_false (fun z => hk z.2)]
      simp only [Bool.or_false]
theorem hwS_b {m : Nat → Nat → Int} {w : Nat} (hv : ∀ i : Nat, i < 5 → (m w i = -9 ∨ (0 ≤ m w i ∧ m w i < 4))) : hwS m w = bits4 (false || hB m w 0 0 || hB m w 1 0 || hB m w 2 0 || hB m w 3 0 || hB m w 4 0) (false || hB m w 0 1 || hB m w 1 1 || hB m w 2 1 || hB m w 3 1 || hB m w 4 1) (false || hB m w 0 2 || hB m w 1 2 || hB m w 2 2 || hB m w 3 2 || hB m w 4 2) (false || hB m w 0 3 || hB m w 1 3 || hB m w 2 3 || hB m w 3 3 || hB m w 4 3) := by
  have e0 : hv1 m w 0 0 = hv1 m w 0 (bits4 false false false false) := by rw [b4_f]
  unfold hwS
  rw [e0, hv1_b (hv 0 (by decide)), hv1_b (hv 1 (by decide)), hv1_b (hv 2 (by decide)), hv1_b (hv 3 (by decide)), hv1_b (hv 4 (by decide))]
def sbP (m : Nat → Nat → Int) (w : Nat) (p : Nat) : Bool := decide (¬ m w p = -9 ∧ (¬ kd m (m w p) = 1 ∨ ¬ iA (hwS m w) (iX (iS 1 (m w p)) (-1)) = 0))
theorem sbS_b (m : Nat → Nat → Int) (w : Nat) : sbS m w = bits5 (sbP m w 0) (sbP m w 1) (sbP m w 2) (sbP m w 3) (sbP m w 4) := by
  unfold sbS sb1 bits5 sbP
  simp only [bS_i]
def nB (m : Nat → Nat → Int) (S : Nat) (h x : Int) : Bool := decide (((0 ≤ x ∧ x < m 3 6) ∧ m 6 x.toNat ≤ h ∧ h ≤ m 7 x.toNat) ∧ ¬ ((0 ≤ x ∧ x < m 3 6) ∧ iA (iR (m S 5) x) 1 = 1))
theorem ngS_b (m : Nat → Nat → Int) (S : Nat) (h : Int) : ngS m S h = bits5 (nB m S h 0) (nB m S h 1) (nB m S h 2) (nB m S h 3) (nB m S h 4) := by
  unfold ngS ng1 bits5 nB
  simp only [bS_i]
theorem bI_or (a b : Bool) : bI (a || b) = if ¬ bI a = 0 ∨ b = true then 1 else 0 := by cases a <;> cases b <;> decide
/-- the scene 9 of the class and level 0 of the reference -/
def SR0 (m : Nat → Nat → Int) : Prop := sR (m 3 5) (m 3 6) (cV m 9) (fun i => m 61 (0 + i))
theorem SR0.w {m : Nat → Nat → Int} (h : SR0 m) {i : Nat} (hi : i < 5) (hp : (i : Int) < m 3 6) : m 10 i = m 61 (0 + i) ∧ m 11 i = m 61 (5 + i) ∧ m 12 i = m 61 (10 + i) := by
  have h9 : cV m 9 i = m 61 (0 + i) ∧ cV m 9 (5 + i) = m 61 (0 + (5 + i)) ∧ cV m 9 (10 + i) = m 61 (0 + (10 + i)) := h.1 i hi hp
  rw [cV_w hi, cV_h hi, cV_a hi, show 0 + (5 + i) = 5 + i by omega, show 0 + (10 + i) = 10 + i by omega] at h9
  exact h9
theorem SR0.v {m : Nat → Nat → Int} (h : SR0 m) {i : Nat} (hi : i < 5) : m 10 i = -9 ∨ (0 ≤ m 10 i ∧ m 10 i < m 3 5) := by
  have := h.2.2.1 i hi
  rw [cV_w hi] at this
  exact this
theorem SR0.o {m : Nat → Nat → Int} (h : SR0 m) {i : Nat} (hi : i < 5) (hp : m 3 6 ≤ (i : Int)) : m 10 i = -9 ∧ m 12 i = 0 := by
  have := h.2.2.2 i hi hp
  rw [cV_w hi, cV_a hi] at this
  exact this
theorem SR0.g {m : Nat → Nat → Int} (h : SR0 m) : m 9 4 = m 61 15 ∧ m 9 5 = m 61 16 ∧ m 9 6 = m 61 17 := h.2.1
theorem SR0_of {m : Nat → Nat → Int} (h1 : ∀ i : Nat, i < 5 → (i : Int) < m 3 6 → m 10 i = m 61 (0 + i) ∧ m 11 i = m 61 (5 + i) ∧ m 12 i = m 61 (10 + i)) (h2 : m 9 4 = m 61 15 ∧ m 9 5 = m 61 16 ∧ m 9 6 = m 61 17) (h3 : ∀ i : Nat, i < 5 → (m 10 i = -9 ∨ (0 ≤ m 10 i ∧ m 10 i < m 3 5))) (h4 : ∀ i : Nat, i < 5 → m 3 6 ≤ (i : Int) → m 10 i = -9 ∧ m 12 i = 0) : SR0 m := by
  refine ⟨fun i hi hp => ?_, h2, fun i hi => ?_, fun i hi hp => ?_⟩
  · show cV m 9 i = m 61 (0 + i) ∧ cV m 9 (5 + i) = m 61 (0 + (5 + i)) ∧ cV m 9 (10 + i) = m 61 (0 + (10 + i))
    rw [cV_w hi, cV_h hi, cV_a hi, show 0 + (5 + i) = 5 + i by omega, show 0 + (10 + i) = 10 + i by omega]
    exact h1 i hi hp
  · rw [cV_w hi]; exact h3 i hi
  · rw [cV_w hi, cV_a hi]; exact h4 i hi hp
theorem SR0.eqk {m : Nat → Nat → Int} (hP : PR m) (h : SR0 m) {k : Int} (hk : 0 ≤ k) {i : Nat} (hi : i < 5) {x : Int} (hx : (i : Int) = x) {j : Nat} (hj : 0 + i = j) : decide (m 10 i = k) = decide (x < m 55 1 ∧ m 61 j = k) := by
  subst hx
  subst hj
  refine decide_eq_decide.mpr ⟨fun e => ?_, fun e => ?_⟩
  · by_cases hp : (i : Int) < m 3 6
    · exact ⟨by rw [← hP.1.2]; exact hp, by rw [← (h.w hi hp).1]; exact e⟩
    · have := (h.o hi (by omega)).1
      omega
  · rw [(h.w hi (by rw [hP.1.2]; exact e.1)).1]; exact e.2
theorem SR0.wrE {m : Nat → Nat → Int} (hP : PR m) (h : SR0 m) {k : Int} (hk : 0 ≤ k) : wr m 10 k = dw0 m k := by
  rw [wr_bits, dw0_bits, h.eqk hP hk (i := 0) (by decide) (x := 0) rfl (j := 0) rfl, h.eqk hP hk (i := 1) (by decide) (x := 1) rfl (j := 1) rfl, h.eqk hP hk (i := 2) (by decide) (x := 2) rfl (j := 2) rfl, h.eqk hP hk (i := 3) (by decide) (x := 3) rfl (j := 3) rfl, h.eqk hP hk (i := 4) (by decide) (x := 4) rfl (j := 4) rfl]
theorem bC_wr0 (m : Nat → Nat → Int) (k : Int) : bC (wr m 10 k) = onS (wr m 10 k) := by rw [wr_bits, b5_C, b5_on]
theorem SR0.v4 {m : Nat → Nat → Int} (hP : PR m) (h : SR0 m) {i : Nat} (hi : i < 5) : m 10 i = -9 ∨ (0 ≤ m 10 i ∧ m 10 i < 4) := by
  have := h.v hi
  have := hP.2.1.1
  omega
theorem sb0_b {m : Nat → Nat → Int} {x k : Int} (al : Bool) : sb0 m x k (bI al) = bI (al || decide (k < m 55 0 ∧ ¬ k = x ∧ m 56 k.toNat = 1 ∧ ¬ dw0 m k = 0)) := by
  unfold sb0
  by_cases c1 : k < m 55 0
  · rw [if_pos c1, bI_or]
    by_cases c2 : ¬ k = x ∧ m 56 k.toNat = 1 ∧ ¬ dw0 m k = 0
    · rw [if_pos (Or.inr c2), if_pos (Or.inr (decide_eq_true ⟨c1, c2⟩))]
    · by_cases c3 : bI al = 0
      · rw [if_neg (fun z => z.elim (fun y => y c3) c2), if_neg (fun z => z.elim (fun y => y c3) (fun y => c2 (of_decide_eq_true y).2))]
      · rw [if_pos (Or.inl c3), if_pos (Or.inl c3)]
  · rw [if_neg c1, decide_eq_false (fun z => c1 z.1), Bool.or_false]
theorem SR0.hH {m : Nat → Nat → Int} (hP : PR m) (h : SR0 m) {k : Int} (hk : 0 ≤ k) : (false || hB m 10 0 k || hB m 10 1 k || hB m 10 2 k || hB m 10 3 k || hB m 10 4 k) = decide (k < m 55 0 ∧ m 56 k.toNat = 1 ∧ ¬ dw0 m k = 0) := by
  rw [← h.wrE hP hk]
  have e2 : ∀ p : Nat, hB m 10 p k = (decide (m 10 p = k) && decide (kd m k = 1)) := fun p => by unfold hB; exact Bool.decide_and _ _
  have e3 : decide (k < m 55 0 ∧ m 56 k.toNat = 1 ∧ ¬ wr m 10 k = 0) = (decide (kd m k = 1) && decide (¬ wr m 10 k = 0)) := by
    rw [← Bool.decide_and]
    refine decide_eq_decide.mpr ⟨fun z => ⟨?_, z.2.2⟩, fun z => ?_⟩
    · rw [hP.kdE ⟨hk, by rw [hP.1.1]; exact z.1⟩]; exact z.2.1
    · have h9 : 0 ≤ k ∧ k < m 3 5 := Classical.byContradiction (fun y => by have := z.1; rw [kd_o y] at this; cases this)
      refine ⟨by rw [← hP.1.1]; exact h9.2, by rw [← hP.kdE h9]; exact z.1, z.2⟩
  rw [e3, wr_bits, b5_z, e2, e2, e2, e2, e2]
  cases decide (kd m k = 1) <;> simp
theorem SR0.sbE {m : Nat → Nat → Int} (hP : PR m) (h : SR0 m) {i : Nat} (hi : i < 5) (hp : (i : Int) < m 3 6) : sbM0 m (m 61 (0 + i)) = bI (sbP m 10 i) := by
  rw [← (h.w hi hp).1]
  have hv := h.v hi
  generalize hx : m 10 i = x at hv
  unfold sbM0 sbP
  rw [hx]
  by_cases c1 : x = -9
  · rw [if_pos c1, decide_eq_false (fun z => z.1 c1)]; rfl
  · have hx9 : 0 ≤ x ∧ x < m 3 5 := by omega
    rw [if_neg c1, ← hP.kdE hx9]
    by_cases c2 : kd m x = 1
    · rw [if_neg (fun z => z c2)]
      rw [show (0 : Int) = bI false from rfl, sb0_b, sb0_b, sb0_b, sb0_b]
      rw [hwS_b (fun i hi => h.v4 hP hi), h.hH hP (k := 0) (by decide), h.hH hP (k := 1) (by decide), h.hH hP (k := 2) (by decide), h.hH hP (k := 3) (by decide)]
      have hn := hP.2.1.1
      have cs : x = 0 ∨ x = 1 ∨ x = 2 ∨ x = 3 := by omega
      have ee : ∀ C : Prop, ∀ [Decidable C], decide (¬ x = -9 ∧ (¬ kd m x = 1 ∨ C)) = decide C := fun C _ => decide_eq_decide.mpr ⟨fun z => z.2.elim (fun y => absurd c2 y) id, fun z => ⟨c1, Or.inr z⟩⟩
      rw [show bI false = (0 : Int) from rfl, ee]
      have same : ∀ (k : Int) (Z : Prop) [Decidable Z], ¬ k = x → decide (k < m 55 0 ∧ ¬ k = x ∧ Z) = decide (k < m 55 0 ∧ Z) := fun k Z _ hk => decide_eq_decide.mpr ⟨fun z => ⟨z.1, z.2.2⟩, fun z => ⟨z.1, hk, z.2⟩⟩
      have gone : ∀ (k : Int) (Z : Prop) [Decidable Z], k = x → decide (k < m 55 0 ∧ ¬ k = x ∧ Z) = false := fun k Z _ hk => decide_eq_false (fun z => z.2.1 hk)
      rcases cs with e | e | e | e
      · rw [gone 0 _ (by omega), same 1 _ (by omega), same 2 _ (by omega), same 3 _ (by omega)]
        subst e
        rw [b4_o0]
        simp only [Bool.false_or, Bool.or_false]
      · rw [same 0 _ (by omega), gone 1 _ (by omega), same 2 _ (by omega), same 3 _ (by omega)]
        subst e
        rw [b4_o1]
        simp only [Bool.false_or, Bool.or_false]
      · rw [same 0 _ (by omega), same 1 _ (by omega), gone 2 _ (by omega), same 3 _ (by omega)]
        subst e
        rw [b4_o2]
        simp only [Bool.false_or, Bool.or_false]
      · rw [same 0 _ (by omega), same 1 _ (by omega), same 2 _ (by omega), gone 3 _ (by omega)]
        subst e
        rw [b4_o3]
        simp only [Bool.false_or, Bool.or_false]
    · rw [if_pos c2, decide_eq_true ⟨c1, Or.inl c2⟩]; rfl
theorem SR0.nBE {m : Nat → Nat → Int} (hP : PR m) (h : SR0 m) {i : Nat} (hi : i < 5) (hp : (i : Int) < m 3 6) {t x : Int} (hx : (i : Int) = x) : nB m 9 t x = decide (¬ iA (iR (m 61 16) x) 1 = 1 ∧ m 58 i ≤ t ∧ t ≤ m 59 i) := by
  subst hx
  unfold nB
  have q := hP.2.2.2 i hi hp
  rw [Int.toNat_natCast, ← h.g.2.1, ← q.1, ← q.2.1]
  refine decide_eq_decide.mpr ⟨fun z => ⟨fun y => z.2 ⟨⟨by omega, hp⟩, y⟩, z.1.2⟩, fun z => ⟨⟨⟨by omega, hp⟩, z.2⟩, fun y => z.1 y.2⟩⟩
theorem SR0.nBo {m : Nat → Nat → Int} {i : Nat} (hp : ¬ (i : Int) < m 3 6) {t x : Int} (hx : (i : Int) = x) : nB m 9 t x = false := by
  subst hx
  exact decide_eq_false (fun z => hp z.1.1.2)
theorem SR0.j {m : Nat → Nat → Int} (hP : PR m) (h : SR0 m) : jM0 m := ⟨by rw [← hP.1.1]; exact hP.2.1.1, by rw [← hP.1.2]; exact hP.2.1.2, fun i hi hp => by
  rw [← hP.1.2] at hp
  rw [← (h.w hi hp).1]
  exact h.v4 hP hi⟩
/-- the scene 13 of the class and level 1 of the reference -/
def SR18 (m : Nat → Nat → Int) : Prop := sR (m 3 5) (m 3 6) (cV m 13) (fun i => m 61 (18 + i))
theorem SR18.w {m : Nat → Nat → Int} (h : SR18 m) {i : Nat} (hi : i < 5) (hp : (i : Int) < m 3 6) : m 14 i = m 61 (18 + i) ∧ m 15 i = m 61 (23 + i) ∧ m 16 i = m 61 (28 + i) := by
  have h9 : cV m 13 i = m 61 (18 + i) ∧ cV m 13 (5 + i) = m 61 (18 + (5 + i)) ∧ cV m 13 (10 + i) = m 61 (18 + (10 + i)) := h.1 i hi hp
  rw [cV_w hi, cV_h hi, cV_a hi, show 18 + (5 + i) = 23 + i by omega, show 18 + (10 + i) = 28 + i by omega] at h9
  exact h9
theorem SR18.v {m : Nat → Nat → Int} (h : SR18 m) {i : Nat} (hi : i < 5) : m 14 i = -9 ∨ (0 ≤ m 14 i ∧ m 14 i < m 3 5) := by
  have := h.2.2.1 i hi
  rw [cV_w hi] at this
  exact this
theorem SR18.o {m : Nat → Nat → Int} (h : SR18 m) {i : Nat} (hi : i < 5) (hp : m 3 6 ≤ (i : Int)) : m 14 i = -9 ∧ m 16 i = 0 := by
  have := h.2.2.2 i hi hp
  rw [cV_w hi, cV_a hi] at this
  exact this
theorem SR18.g {m : Nat → Nat → Int} (h : SR18 m) : m 13 4 = m 61 33 ∧ m 13 5 = m 61 34 ∧ m 13 6 = m 61 35 := h.2.1
theorem SR18_of {m : Nat → Nat → Int} (h1 : ∀ i : Nat, i < 5 → (i : Int) < m 3 6 → m 14 i = m 61 (18 + i) ∧ m 15 i = m 61 (23 + i) ∧ m 16 i = m 61 (28 + i)) (h2 : m 13 4 = m 61 33 ∧ m 13 5 = m 61 34 ∧ m 13 6 = m 61 35) (h3 : ∀ i : Nat, i < 5 → (m 14 i = -9 ∨ (0 ≤ m 14 i ∧ m 14 i < m 3 5))) (h4 : ∀ i : Nat, i < 5 → m 3 6 ≤ (i : Int) → m 14 i = -9 ∧ m 16 i = 0) : SR18 m := by
  refine ⟨fun i hi hp => ?_, h2, fun i hi => ?_, fun i hi hp => ?_⟩
  · show cV m 13 i = m 61 (18 + i) ∧ cV m 13 (5 + i) = m 61 (18 + (5 + i)) ∧ cV m 13 (10 + i) = m 61 (18 + (10 + i))
    rw [cV_w hi, cV_h hi, cV_a hi, show 18 + (5 + i) = 23 + i by omega, show 18 + (10 + i) = 28 + i by omega]
    exact h1 i hi hp
  · rw [cV_w hi]; exact h3 i hi
  · rw [cV_w hi, cV_a hi]; exact h4 i hi hp
theorem SR18.eqk {m : Nat → Nat → Int} (hP : PR m) (h : SR18 m) {k : Int} (hk : 0 ≤ k) {i : Nat} (hi : i < 5) {x : Int} (hx : (i : Int) = x) {j : Nat} (hj : 18 + i = j) : decide (m 14 i = k) = decide (x < m 55 1 ∧ m 61 j = k) := by
  subst hx
  subst hj
  refine decide_eq_decide.mpr ⟨fun e => ?_, fun e => ?_⟩
  · by_cases hp : (i : Int) < m 3 6
    · exact ⟨by rw [← hP.1.2]; exact hp, by rw [← (h.w hi hp).1]; exact e⟩
    · have := (h.o hi (by omega)).1
      omega
  · rw [(h.w hi (by rw [hP.1.2]; exact e.1)).1]; exact e.2
theorem SR18.wrE {m : Nat → Nat → Int} (hP : PR m) (h : SR18 m) {k : Int} (hk : 0 ≤ k) : wr m 14 k = dw18 m k := by
  rw [wr_bits, dw18_bits, h.eqk hP hk (i := 0) (by decide) (x := 0) rfl (j := 18) rfl, h.eqk hP hk (i := 1) (by decide) (x := 1) rfl (j := 19) rfl, h.eqk hP hk (i := 2) (by decide) (x := 2) rfl (j := 20) rfl, h.eqk hP hk (i := 3) (by decide) (x := 3) rfl (j := 21) rfl, h.eqk hP hk (i := 4) (by decide) (x := 4) rfl (j := 22) rfl]
theorem bC_wr18 (m : Nat → Nat → Int) (k : Int) : bC (wr m 14 k) = onS (wr m 14 k) := by rw [wr_bits, b5_C, b5_on]
theorem SR18.v4 {m : Nat → Nat → Int} (hP : PR m) (h : SR18 m) {i : Nat} (hi : i < 5) : m 14 i = -9 ∨ (0 ≤ m 14 i ∧ m 14 i < 4) := by
  have := h.v hi
  have := hP.2.1.1
  omega
theorem sb18_b {m : Nat → Nat → Int} {x k : Int} (al : Bool) : sb18 m x k (bI al) = bI (al || decide (k < m 55 0 ∧ ¬ k = x ∧ m 56 k.toNat = 1 ∧ ¬ dw18 m k = 0)) := by
  unfold sb18
  by_cases c1 : k < m 55 0
  · rw [if_pos c1, bI_or]
    by_cases c2 : ¬ k = x ∧ m 56 k.toNat = 1 ∧ ¬ dw18 m k = 0
    · rw [if_pos (Or.inr c2), if_pos (Or.inr (decide_eq_true ⟨c1, c2⟩))]
    · by_cases c3 : bI al = 0
      · rw [if_neg (fun z => z.elim (fun y => y c3) c2), if_neg (fun z => z.elim (fun y => y c3) (fun y => c2 (of_decide_eq_true y).2))]
      · rw [if_pos (Or.inl c3), if_pos (Or.inl c3)]
  · rw [if_neg c1, decide_eq_false (fun z => c1 z.1), Bool.or_false]
theorem SR18.hH {m : Nat → Nat → Int} (hP : PR m) (h : SR18 m) {k : Int} (hk : 0 ≤ k) : (false || hB m 14 0 k || hB m 14 1 k || hB m 14 2 k || hB m 14 3 k || hB m 14 4 k) = decide (k < m 55 0 ∧ m 56 k.toNat = 1 ∧ ¬ dw18 m k = 0) := by
  rw [← h.wrE hP hk]
  have e2 : ∀ p : Nat, hB m 14 p k = (decide (m 14 p = k) && decide (kd m k = 1)) := fun p => by unfold hB; exact Bool.decide_and _ _
  have e3 : decide (k < m 55 0 ∧ m 56 k.toNat = 1 ∧ ¬ wr m 14 k = 0) = (decide (kd m k = 1) && decide (¬ wr m 14 k = 0)) := by
    rw [← Bool.decide_and]
    refine decide_eq_decide.mpr ⟨fun z => ⟨?_, z.2.2⟩, fun z => ?_⟩
    · rw [hP.kdE ⟨hk, by rw [hP.1.1]; exact z.1⟩]; exact z.2.1
    · have h9 : 0 ≤ k ∧ k < m 3 5 := Classical.byContradiction (fun y => by have := z.1; rw [kd_o y] at this; cases this)
      refine ⟨by rw [← hP.1.1]; exact h9.2, by rw [← hP.kdE h9]; exact z.1, z.2⟩
  rw [e3, wr_bits, b5_z, e2, e2, e2, e2, e2]
  cases decide (kd m k = 1) <;> simp
theorem SR18.sbE {m : Nat → Nat → Int} (hP : PR m) (h : SR18 m) {i : Nat} (hi : i < 5) (hp : (i : Int) < m 3 6) : sbM18 m (m 61 (18 + i)) = bI (sbP m 14 i) := by
  rw [← (h.w hi hp).1]
  have hv := h.v hi
  generalize hx : m 14 i = x at hv
  unfold sbM18 sbP
  rw [hx]
  by_cases c1 : x = -9
  · rw [if_pos c1, decide_eq_false (fun z => z.1 c1)]; rfl
  · have hx9 : 0 ≤ x ∧ x < m 3 5 := by omega
    rw [if_neg c1, ← hP.kdE hx9]
    by_cases c2 : kd m x = 1
    · rw [if_neg (fun z => z c2)]
      rw [show (0 : Int) = bI false from rfl, sb18_b, sb18_b, sb18_b, sb18_b]
      rw [hwS_b (fun i hi => h.v4 hP hi), h.hH hP (k := 0) (by decide), h.hH hP (k := 1) (by decide), h.hH hP (k := 2) (by decide), h.hH hP (k := 3) (by decide)]
      have hn := hP.2.1.1
      have cs : x = 0 ∨ x = 1 ∨ x = 2 ∨ x = 3 := by omega
      have ee : ∀ C : Prop, ∀ [Decidable C], decide (¬ x = -9 ∧ (¬ kd m x = 1 ∨ C)) = decide C := fun C _ => decide_eq_decide.mpr ⟨fun z => z.2.elim (fun y => absurd c2 y) id, fun z => ⟨c1, Or.inr z⟩⟩
      rw [show bI false = (0 : Int) from rfl, ee]
      have same : ∀ (k : Int) (Z : Prop) [Decidable Z], ¬ k = x → decide (k < m 55 0 ∧ ¬ k = x ∧ Z) = decide (k < m 55 0 ∧ Z) := fun k Z _ hk => decide_eq_decide.mpr ⟨fun z => ⟨z.1, z.2.2⟩, fun z => ⟨z.1, hk, z.2⟩⟩
      have gone : ∀ (k : Int) (Z : Prop) [Decidable Z], k = x → decide (k < m 55 0 ∧ ¬ k = x ∧ Z) = false := fun k Z _ hk => decide_eq_false (fun z => z.2.1 hk)
      rcases cs with e | e | e | e
      · rw [gone 0 _ (by omega), same 1 _ (by omega), same 2 _ (by omega), same 3 _ (by omega)]
        subst e
        rw [b4_o0]
        simp only [Bool.false_or, Bool.or_false]
      · rw [same 0 _ (by omega), gone 1 _ (by omega), same 2 _ (by omega), same 3 _ (by omega)]
        subst e
        rw [b4_o1]
        simp only [Bool.false_or, Bool.or_false]
      · rw [same 0 _ (by omega), same 1 _ (by omega), gone 2 _ (by omega), same 3 _ (by omega)]
        subst e
        rw [b4_o2]
        simp only [Bool.false_or, Bool.or_false]
      · rw [same 0 _ (by omega), same 1 _ (by omega), same 2 _ (by omega), gone 3 _ (by omega)]
        subst e
        rw [b4_o3]
        simp only [Bool.false_or, Bool.or_false]
    · rw [if_pos c2, decide_eq_true ⟨c1, Or.inl c2⟩]; rfl
theorem SR18.nBE {m : Nat → Nat → Int} (hP : PR m) (h : SR18 m) {i : Nat} (hi : i < 5) (hp : (i : Int) < m 3 6) {t x : Int} (hx : (i : Int) = x) : nB m 13 t x = decide (¬ iA (iR (m 61 34) x) 1 = 1 ∧ m 58 i ≤ t ∧ t ≤ m 59 i) := by
  subst hx
  unfold nB
  have q := hP.2.2.2 i hi hp
  rw [Int.toNat_natCast, ← h.g.2.1, ← q.1, ← q.2.1]
  refine decide_eq_decide.mpr ⟨fun z => ⟨fun y => z.2 ⟨⟨by omega, hp⟩, y⟩, z.1.2⟩, fun z => ⟨⟨⟨by omega, hp⟩, z.2⟩, fun y => z.1 y.2⟩⟩
theorem SR18.nBo {m : Nat → Nat → Int} {i : Nat} (hp : ¬ (i : Int) < m 3 6) {t x : Int} (hx : (i : Int) = x) : nB m 13 t x = false := by
  subst hx
  exact decide_eq_false (fun z => hp z.1.1.2)
theorem SR18.j {m : Nat → Nat → Int} (hP : PR m) (h : SR18 m) : jM18 m := ⟨by rw [← hP.1.1]; exact hP.2.1.1, by rw [← hP.1.2]; exact hP.2.1.2, fun i hi hp => by
  rw [← hP.1.2] at hp
  rw [← (h.w hi hp).1]
  exact h.v4 hP hi⟩
