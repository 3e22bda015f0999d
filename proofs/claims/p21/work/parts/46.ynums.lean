/-! numbers, with more of their ranges -/
noncomputable def y_nrm (env : xE) (w : xv) : Option (xv × xE) := match x_wi (-2147483648) 2147483647 env w with
  | true => some (w, env)
  | false => some (x_nw 0 x_fi env)
/-- a range, if it lies within the ints -/
def y_fit (l u : Int) : Int × Int × Bool := match x_le (-2147483648) l && x_le u 2147483647 with
  | true => (l, u, false)
  | false => x_fi
theorem y_fit_ok {l u z : Int} (h1 : l ≤ z) (h2 : z ≤ u) : x_s1 (y_fit l u) (Int32.ofInt z).toInt := by
  unfold y_fit
  cases hb : (x_le (-2147483648) l && x_le u 2147483647) with
  | false => exact x_fi_ok _
  | true =>
    rw [Bool.and_eq_true] at hb
    have a1 := x_le_iff.mp hb.1
    have a2 := x_le_iff.mp hb.2
    rw [x_i32 (by omega) (by omega)]
    exact Or.inl ⟨h1, h2⟩
/-- what a number is by: a value that is op's, a value of the symbols' -/
theorem y_g2_of {E : List Value → Option (List Value)} {op : Int32 → Int32 → Int32} (hE : ∀ x y r, E (.int y :: .int x :: r) = some (.int (op x y) :: r)) {g : xE → xv → xv → Option (xv × xE)}
    (hg : ∀ env a b p ρ, g env a b = some p → x_sat ρ env → x_ok env.length a → x_ok env.length b → (p.2 = env ∧ p.1.1 = 0 ∧ x_ok env.length p.1 ∧ Int32.ofInt (x_vl ρ p.1) = op (Int32.ofInt (x_vl ρ a)) (Int32.ofInt (x_vl ρ b))) ∨ ∃ e, p = x_nw 0 e env ∧ x_s1 e (op (Int32.ofInt (x_vl ρ a)) (Int32.ofInt (x_vl ρ b))).toInt) : x_g2 0 0 E g := by
  intro env a b p ρ hp ha hb hsat oa ob
  rcases hg env a b p ρ hp hsat oa ob with ⟨h1, h2, h3, h4⟩ | ⟨e, h1, h2⟩
  · refine ⟨ρ, x_ext.rf, by rw [h1]; exact Nat.le_refl _, by rw [h1]; exact hsat, by rw [h1]; exact h3, fun r => ?_⟩
    rw [x_in0 ha, x_in0 hb, hE, x_in0 h2, h4]
  · subst h1
    obtain ⟨ρ', g1, g2, g3, g4, g5⟩ := x_nwi hsat h2
    exact ⟨ρ', g1, g2, g3, g4, fun r => by rw [x_in0 ha, x_in0 hb, hE, g5]⟩
theorem y_nrm_ok {env : xE} {w : xv} {p : xv × xE} (h : y_nrm env w = some p) (h0 : w.1 = 0) (ho : x_ok env.length w) (ρ : Nat → Int) {z : Int32} (hz : Int32.ofInt (x_vl ρ w) = z) : (p.2 = env ∧ p.1.1 = 0 ∧ x_ok env.length p.1 ∧ Int32.ofInt (x_vl ρ p.1) = z) ∨ ∃ e, p = x_nw 0 e env ∧ x_s1 e z.toInt := by
  unfold y_nrm at h
  split at h
  · cases h; exact Or.inl ⟨rfl, h0, ho, hz⟩
  · cases h; exact Or.inr ⟨x_fi, rfl, x_fi_ok z⟩
noncomputable def yg_add (env : xE) (a b : xv) : Option (xv × xE) := match b.2.1 with
  | 0 => y_nrm env (0, a.2.1, a.2.2 + b.2.2)
  | _ + 1 => match a.2.1 with
    | 0 => y_nrm env (0, b.2.1, a.2.2 + b.2.2)
    | _ + 1 => match x_bd env a with
      | none => none
      | some p => match x_bd env b with
        | none => none
        | some q => some (x_nw 0 (y_fit (p.1 + q.1) (p.2 + q.2)) env)
theorem yg_add_ok : x_g2 0 0 (ev_s .iadd .null) yg_add := y_g2_of (op := (· + ·)) (fun _ _ _ => rfl) (by
  intro env a b p ρ hp hsat oa ob
  obtain ⟨ka, sa, na⟩ := a
  obtain ⟨kb, sb, nb⟩ := b
  unfold yg_add at hp
  cases sb with
  | zero =>
    refine y_nrm_ok hp rfl oa ρ ?_
    show _ = Int32.ofInt _ + Int32.ofInt _
    rw [← Int32.ofInt_add]
    congr 1
    cases sa with
    | zero => rfl
    | succ sa => show ρ sa + (na + nb) = ρ sa + na + nb; omega
  | succ sb => cases sa with
    | zero =>
      refine y_nrm_ok hp rfl ob ρ ?_
      show _ = Int32.ofInt _ + Int32.ofInt _
      rw [← Int32.ofInt_add]
      congr 1
      show ρ sb + (na + nb) = na + (ρ sb + nb)
      omega
    | succ sa =>
      dsimp only at hp
      split at hp
      · cases hp
      · rename_i pa hpa
        split at hp
        · cases hp
        · rename_i qb hqb
          cases hp
          obtain ⟨la, ua⟩ := pa
          obtain ⟨lb, ub⟩ := qb
          have b1 := x_bd_ok hsat hpa
          have b2 := x_bd_ok hsat hqb
          refine Or.inr ⟨_, rfl, ?_⟩
          show x_s1 _ (Int32.ofInt _ + Int32.ofInt _).toInt
          rw [← Int32.ofInt_add]
          exact y_fit_ok (by dsimp only; omega) (by dsimp only; omega))
noncomputable def yg_sub (env : xE) (a b : xv) : Option (xv × xE) := match b.2.1 with
  | 0 => y_nrm env (0, a.2.1, a.2.2 - b.2.2)
  | sb + 1 => match Nat.beq a.2.1 (sb + 1) with
    | true => y_nrm env (0, 0, a.2.2 - b.2.2)
    | false => match x_bd env a with
      | none => none
      | some p => match x_bd env b with
        | none => none
        | some q => some (x_nw 0 (y_fit (p.1 - q.2) (p.2 - q.1)) env)
theorem yg_sub_ok : x_g2 0 0 (ev_s .isub .null) yg_sub := y_g2_of (op := (· - ·)) (fun _ _ _ => rfl) (by
  intro env a b p ρ hp hsat oa ob
  obtain ⟨ka, sa, na⟩ := a
  obtain ⟨kb, sb, nb⟩ := b
  unfold yg_sub at hp
  cases sb with
  | zero =>
    refine y_nrm_ok hp rfl oa ρ ?_
    show _ = Int32.ofInt _ - Int32.ofInt _
    rw [← Int32.ofInt_sub]
    congr 1
    cases sa with
    | zero => rfl
    | succ sa => show ρ sa + (na - nb) = ρ sa + na - nb; omega
  | succ sb =>
    dsimp only at hp
    cases hq : Nat.beq sa (sb + 1) with
    | true =>
      rw [hq] at hp
      have := Nat.eq_of_beq_eq_true hq
      subst this
      refine y_nrm_ok hp rfl (Nat.zero_le _) ρ ?_
      show _ = Int32.ofInt _ - Int32.ofInt _
      rw [← Int32.ofInt_sub]
      congr 1
      show na - nb = ρ sb + na - (ρ sb + nb)
      omega
    | false =>
      rw [hq] at hp
      dsimp only at hp
      split at hp
      · cases hp
      · rename_i pa hpa
        split at hp
        · cases hp
        · rename_i qb hqb
          cases hp
          obtain ⟨la, ua⟩ := pa
          obtain ⟨lb, ub⟩ := qb
          have b1 := x_bd_ok hsat hpa
          have b2 := x_bd_ok hsat hqb
          refine Or.inr ⟨_, rfl, ?_⟩
          show x_s1 _ (Int32.ofInt _ - Int32.ofInt _).toInt
          rw [← Int32.ofInt_sub]
          exact y_fit_ok (by dsimp only; omega) (by dsimp only; omega))
/-- the first not below 0, the second any -/
noncomputable def yg_mul (env : xE) (a b : xv) : Option (xv × xE) := match x_bd env a with
  | none => none
  | some p => match x_bd env b with
    | none => none
    | some q => match x_le 0 p.1 with
      | true => some (x_nw 0 (y_fit (x_mn (p.1 * q.1) (p.2 * q.1)) (x_mx (p.1 * q.2) (p.2 * q.2))) env)
      | false => some (x_nw 0 x_fi env)
theorem yg_mul_ok : x_g2 0 0 (ev_s .imul .null) yg_mul := y_g2_of (op := (· * ·)) (fun _ _ _ => rfl) (by
  intro env a b p ρ hp hsat oa ob
  unfold yg_mul at hp
  split at hp
  · cases hp
  · rename_i pa hpa
    split at hp
    · cases hp
    · rename_i qb hqb
      split at hp
      · rename_i h0
        cases hp
        obtain ⟨la, ua⟩ := pa
        obtain ⟨lb, ub⟩ := qb
        have h0 : 0 ≤ la := x_le_iff.mp h0
        have b1 := x_bd_ok hsat hpa
        have b2 := x_bd_ok hsat hqb
        refine Or.inr ⟨_, rfl, ?_⟩
        show x_s1 _ (Int32.ofInt _ * Int32.ofInt _).toInt
        rw [← Int32.ofInt_mul]
        have ha : 0 ≤ x_vl ρ a := by omega
        have m1 : x_vl ρ a * lb ≤ x_vl ρ a * x_vl ρ b := Int.mul_le_mul_of_nonneg_left b2.1 ha
        have m2 : x_vl ρ a * x_vl ρ b ≤ x_vl ρ a * ub := Int.mul_le_mul_of_nonneg_left b2.2 ha
        refine y_fit_ok ?_ ?_
        · refine Int.le_trans ?_ m1
          dsimp only
          by_cases hb : 0 ≤ lb
          · exact Int.le_trans (x_mn_l _ _) (Int.mul_le_mul_of_nonneg_right b1.1 hb)
          · exact Int.le_trans (x_mn_r _ _) (Int.mul_le_mul_of_nonpos_right b1.2 (by omega))
        · refine Int.le_trans m2 ?_
          dsimp only
          by_cases hb : 0 ≤ ub
          · exact Int.le_trans (Int.mul_le_mul_of_nonneg_right b1.2 hb) (x_mx_r _ _)
          · exact Int.le_trans (Int.mul_le_mul_of_nonpos_right b1.1 (by omega)) (x_mx_l _ _)
      · cases hp
        exact Or.inr ⟨_, rfl, x_fi_ok _⟩)
/-! bits of numbers not below 0 -/
theorem y_nn {x : Int32} (h : 0 ≤ x.toInt) : x.toInt = (x.toBitVec.toNat : Int) ∧ 2 * x.toBitVec.toNat < 2 ^ 32 := by
  have hx : x.toInt = x.toBitVec.toInt := rfl
  have h1 := BitVec.toInt_eq_toNat_cond x.toBitVec
  have h4 := x.toBitVec.isLt
  by_cases hc : 2 * x.toBitVec.toNat < 2 ^ 32
  · rw [if_pos hc] at h1
    exact ⟨hx.trans h1, hc⟩
  · rw [if_neg hc] at h1
    omega
theorem y_bv {u : BitVec 32} (h : 2 * u.toNat < 2 ^ 32) : u.toInt = (u.toNat : Int) := by
  have := BitVec.toInt_eq_toNat_cond u
  rw [if_pos h] at this
  exact this
theorem y_or_le {x y : Int32} {k : Nat} (hk : k ≤ 31) (hx : 0 ≤ x.toInt) (hy : 0 ≤ y.toInt) (hx2 : x.toInt < 2 ^ k) (hy2 : y.toInt < 2 ^ k) : 0 ≤ (x ||| y).toInt ∧ (x ||| y).toInt < 2 ^ k := by
  obtain ⟨a1, a2⟩ := y_nn hx
  obtain ⟨b1, b2⟩ := y_nn hy
  have hp : (2 : Int) ^ k = ((2 ^ k : Nat) : Int) := by push_cast; rfl
  rw [hp] at hx2 hy2 ⊢
  have h : (x.toBitVec ||| y.toBitVec).toNat < 2 ^ k := by
    rw [BitVec.toNat_or]
    exact Nat.or_lt_two_pow (by omega) (by omega)
  have h31 : 2 ^ k ≤ 2 ^ 31 := Nat.pow_le_pow_right (by decide) hk
  have e : (x ||| y).toInt = (x.toBitVec ||| y.toBitVec).toInt := rfl
  rw [e, y_bv (by omega)]
  omega
theorem y_xor_le {x y : Int32} {k : Nat} (hk : k ≤ 31) (hx : 0 ≤ x.toInt) (hy : 0 ≤ y.toInt) (hx2 : x.toInt < 2 ^ k) (hy2 : y.toInt < 2 ^ k) : 0 ≤ (x ^^^ y).toInt ∧ (x ^^^ y).toInt < 2 ^ k := by
  obtain ⟨a1, a2⟩ := y_nn hx
  obtain ⟨b1, b2⟩ := y_nn hy
  have hp : (2 : Int) ^ k = ((2 ^ k : Nat) : Int) := by push_cast; rfl
  rw [hp] at hx2 hy2 ⊢
  have h : (x.toBitVec ^^^ y.toBitVec).toNat < 2 ^ k := by
    rw [BitVec.toNat_xor]
    exact Nat.xor_lt_two_pow (by omega) (by omega)
  have h31 : 2 ^ k ≤ 2 ^ 31 := Nat.pow_le_pow_right (by decide) hk
  have e : (x ^^^ y).toInt = (x.toBitVec ^^^ y.toBitVec).toInt := rfl
  rw [e, y_bv (by omega)]
  omega
/-- how many bits hold both -/
def y_pw (u w : Int) : Option Nat := match x_le 0 u && (x_le 0 w && (x_le u 2147483647 && x_le w 2147483647)) with
  | true => some (Nat.log2 (Nat.max u.toNat w.toNat) + 1)
  | false => none
noncomputable def yg_bit (env : xE) (a b : xv) : Option (xv × xE) := match x_bd env a with
  | none => none
  | some p => match x_bd env b with
    | none => none
    | some q => match x_le 0 p.1 && x_le 0 q.1 with
      | true => match y_pw p.2 q.2 with
        | some k => match Nat.ble k 31 with
          | true => some (x_nw 0 (0, Int.ofNat (2 ^ k - 1), false) env)
          | false => some (x_nw 0 x_fi env)
        | none => some (x_nw 0 x_fi env)
      | false => some (x_nw 0 x_fi env)
theorem y_pw_ok {u w : Int} {k : Nat} (h : y_pw u w = some k) : 0 ≤ u ∧ 0 ≤ w ∧ u ≤ 2147483647 ∧ w ≤ 2147483647 ∧ u < ((2 ^ k : Nat) : Int) ∧ w < ((2 ^ k : Nat) : Int) := by
  unfold y_pw at h
  split at h
  · rename_i hb
    cases h
    simp only [Bool.and_eq_true] at hb
    have h1 := x_le_iff.mp hb.1
    have h2 := x_le_iff.mp hb.2.1
    have h3 := x_le_iff.mp hb.2.2.1
    have h4 := x_le_iff.mp hb.2.2.2
    have hl : Nat.max u.toNat w.toNat < 2 ^ (Nat.log2 (Nat.max u.toNat w.toNat) + 1) := Nat.lt_log2_self
    have l1 : u.toNat ≤ Nat.max u.toNat w.toNat := Nat.le_max_left _ _
    have l2 : w.toNat ≤ Nat.max u.toNat w.toNat := Nat.le_max_right _ _
    generalize 2 ^ (Nat.log2 (Nat.max u.toNat w.toNat) + 1) = z at hl ⊢
    exact ⟨h1, h2, h3, h4, by omega, by omega⟩
  · cases h
theorem yg_bit_ok {E : List Value → Option (List Value)} {op : Int32 → Int32 → Int32} (hE : ∀ x y r, E (.int y :: .int x :: r) = some (.int (op x y) :: r)) (hop : ∀ (x y : Int32) (k : Nat), k ≤ 31 → 0 ≤ x.toInt → 0 ≤ y.toInt → x.toInt < 2 ^ k → y.toInt < 2 ^ k → 0 ≤ (op x y).toInt ∧ (op x y).toInt < 2 ^ k) : x_g2 0 0 E yg_bit := y_g2_of hE (by
  intro env a b p ρ hp hsat oa ob
  unfold yg_bit at hp
  split at hp
  · cases hp
  · rename_i pa hpa
    split at hp
    · cases hp
    · rename_i qb hqb
      split at hp
      · rename_i h0
        split at hp
        · rename_i k hk
          split at hp
          · rename_i h31
            cases hp
            obtain ⟨la, ua⟩ := pa
            obtain ⟨lb, ub⟩ := qb
            rw [Bool.and_eq_true] at h0
            have c1 : 0 ≤ la := x_le_iff.mp h0.1
            have c2 : 0 ≤ lb := x_le_iff.mp h0.2
            have b1 := x_bd_ok hsat hpa
            have b2 := x_bd_ok hsat hqb
            obtain ⟨-, -, u1, u2, u3, u4⟩ := y_pw_ok hk
            have u1 : ua ≤ 2147483647 := u1
            have u2 : ub ≤ 2147483647 := u2
            have u3 : ua < ((2 ^ k : Nat) : Int) := u3
            have u4 : ub < ((2 ^ k : Nat) : Int) := u4
            have hp2 : (2 : Int) ^ k = ((2 ^ k : Nat) : Int) := by push_cast; rfl
            have ea := x_i32 (a := x_vl ρ a) (by omega) (by omega)
            have eb := x_i32 (a := x_vl ρ b) (by omega) (by omega)
            have := hop (Int32.ofInt (x_vl ρ a)) (Int32.ofInt (x_vl ρ b)) k (Nat.le_of_ble_eq_true h31) (by omega) (by omega) (by rw [hp2]; omega) (by rw [hp2]; omega)
            rw [hp2] at this
            refine Or.inr ⟨_, rfl, Or.inl ⟨this.1, ?_⟩⟩
            show _ ≤ ((2 ^ k - 1 : Nat) : Int)
            omega
          · cases hp
            exact Or.inr ⟨_, rfl, x_fi_ok _⟩
        · cases hp
          exact Or.inr ⟨_, rfl, x_fi_ok _⟩
      · cases hp
        exact Or.inr ⟨_, rfl, x_fi_ok _⟩)
