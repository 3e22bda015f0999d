/-! numbers of symbols -/
def x_fi : Int × Int × Bool := (-2147483648, 2147483647, false)
def x_fl : Int × Int × Bool := (-9223372036854775808, 9223372036854775807, false)
theorem x_fi_ok (z : Int32) : x_s1 x_fi z.toInt := Or.inl ⟨by have := Int32.le_toInt z; show (-2147483648 : Int) ≤ _; omega, by have := Int32.toInt_lt z; show _ ≤ (2147483647 : Int); omega⟩
theorem x_fl_ok (z : Int64) : x_s1 x_fl z.toInt := Or.inl ⟨by have := Int64.le_toInt z; show (-9223372036854775808 : Int) ≤ _; omega, by have := Int64.toInt_lt z; show _ ≤ (9223372036854775807 : Int); omega⟩
/-- a new int in a range -/
theorem x_nwi {e : Int × Int × Bool} {env : xE} {ρ : Nat → Int} {z : Int32} (h : x_sat ρ env) (hz : x_s1 e z.toInt) : ∃ ρ', x_ext env.length ρ ρ' ∧ env.length ≤ (x_nw 0 e env).2.length ∧ x_sat ρ' (x_nw 0 e env).2 ∧ x_ok (x_nw 0 e env).2.length (x_nw 0 e env).1 ∧ x_in ρ' (x_nw 0 e env).1 = .int z := by
  obtain ⟨ρ', g1, g2, g3, g4, g5⟩ := x_nw_ok (k := 0) h hz
  refine ⟨ρ', g1, by rw [g5]; exact Nat.le_succ _, g2, g4, ?_⟩
  rw [x_in0 rfl, g3, Int32.ofInt_toInt]
theorem x_nwl {e : Int × Int × Bool} {env : xE} {ρ : Nat → Int} {z : Int64} (h : x_sat ρ env) (hz : x_s1 e z.toInt) : ∃ ρ', x_ext env.length ρ ρ' ∧ env.length ≤ (x_nw 1 e env).2.length ∧ x_sat ρ' (x_nw 1 e env).2 ∧ x_ok (x_nw 1 e env).2.length (x_nw 1 e env).1 ∧ x_in ρ' (x_nw 1 e env).1 = .long z := by
  obtain ⟨ρ', g1, g2, g3, g4, g5⟩ := x_nw_ok (k := 1) h hz
  refine ⟨ρ', g1, by rw [g5]; exact Nat.le_succ _, g2, g4, ?_⟩
  rw [x_in1 rfl, g3, Int64.ofInt_toInt]
/-- by numbers alone where both are known, else by s -/
noncomputable def xg_i (op : Int32 → Int32 → Int32) (s : xE → xv → xv → Option (xv × xE)) (env : xE) (a b : xv) : Option (xv × xE) := match a.2.1 + b.2.1 with
  | 0 => some ((0, 0, (op (Int32.ofInt a.2.2) (Int32.ofInt b.2.2)).toInt), env)
  | _ + 1 => s env a b
def xg_ti (env : xE) (_ _ : xv) : Option (xv × xE) := some (x_nw 0 x_fi env)
theorem x_vl0 {ρ : Nat → Int} {a : xv} (h : a.2.1 = 0) : x_vl ρ a = a.2.2 := by
  obtain ⟨k, s, o⟩ := a
  cases h
  rfl
theorem xg_ti_ok {E : List Value → Option (List Value)} {op : Int32 → Int32 → Int32} (hE : ∀ x y r, E (.int y :: .int x :: r) = some (.int (op x y) :: r)) : x_g2 0 0 E xg_ti := by
  intro env a b p ρ hp ha hb hsat oa ob
  cases hp
  obtain ⟨ρ', g1, g2, g3, g4, g5⟩ := x_nwi hsat (x_fi_ok (op (Int32.ofInt (x_vl ρ a)) (Int32.ofInt (x_vl ρ b))))
  exact ⟨ρ', g1, g2, g3, g4, fun r => by rw [x_in0 ha, x_in0 hb, hE, g5]⟩
theorem xg_i_ok {E : List Value → Option (List Value)} {op : Int32 → Int32 → Int32} {s : xE → xv → xv → Option (xv × xE)} (hE : ∀ x y r, E (.int y :: .int x :: r) = some (.int (op x y) :: r)) (hs : x_g2 0 0 E s) : x_g2 0 0 E (xg_i op s) := by
  intro env a b p ρ hp ha hb hsat oa ob
  unfold xg_i at hp
  split at hp
  · rename_i hz
    cases hp
    have za : a.2.1 = 0 := by omega
    have zb : b.2.1 = 0 := by omega
    refine ⟨ρ, x_ext.rf, Nat.le_refl _, hsat, Nat.zero_le _, fun r => ?_⟩
    rw [x_in0 ha, x_in0 hb, hE, x_vl0 za, x_vl0 zb, x_in0 rfl]
    show _ = some (.int (Int32.ofInt ((op (Int32.ofInt a.2.2) (Int32.ofInt b.2.2)).toInt)) :: r)
    rw [Int32.ofInt_toInt]
  · exact hs env a b p ρ hp ha hb hsat oa ob
def xg_add (env : xE) (a b : xv) : Option (xv × xE) := match b.2.1 with
  | 0 => some ((0, a.2.1, a.2.2 + b.2.2), env)
  | _ + 1 => match a.2.1 with
    | 0 => some ((0, b.2.1, a.2.2 + b.2.2), env)
    | _ + 1 => some (x_nw 0 x_fi env)
theorem xg_add_ok : x_g2 0 0 (ev_s .iadd .null) xg_add := by
  intro env a b p ρ hp ha hb hsat oa ob
  have hE : ∀ (x y : Int32) (r : List Value), ev_s .iadd .null (.int y :: .int x :: r) = some (.int (x + y) :: r) := fun _ _ _ => rfl
  obtain ⟨ka, sa, na⟩ := a
  obtain ⟨kb, sb, nb⟩ := b
  cases ha
  cases hb
  unfold xg_add at hp
  cases sb with
  | zero =>
    cases hp
    refine ⟨ρ, x_ext.rf, Nat.le_refl _, hsat, oa, fun r => ?_⟩
    rw [x_in0 rfl, x_in0 rfl, hE, x_in0 rfl, ← Int32.ofInt_add]
    congr 4
    cases sa with
    | zero => rfl
    | succ sa => show ρ sa + na + nb = ρ sa + (na + nb); omega
  | succ sb => cases sa with
    | zero =>
      cases hp
      refine ⟨ρ, x_ext.rf, Nat.le_refl _, hsat, ob, fun r => ?_⟩
      rw [x_in0 rfl, x_in0 rfl, hE, x_in0 rfl, ← Int32.ofInt_add]
      congr 4
      show na + (ρ sb + nb) = ρ sb + (na + nb)
      omega
    | succ sa => exact xg_ti_ok hE env _ _ p ρ hp rfl rfl hsat oa ob
def xg_sub (env : xE) (a b : xv) : Option (xv × xE) := match b.2.1 with
  | 0 => some ((0, a.2.1, a.2.2 - b.2.2), env)
  | sb + 1 => match Nat.beq a.2.1 (sb + 1) with
    | true => some ((0, 0, a.2.2 - b.2.2), env)
    | false => some (x_nw 0 x_fi env)
theorem xg_sub_ok : x_g2 0 0 (ev_s .isub .null) xg_sub := by
  intro env a b p ρ hp ha hb hsat oa ob
  have hE : ∀ (x y : Int32) (r : List Value), ev_s .isub .null (.int y :: .int x :: r) = some (.int (x - y) :: r) := fun _ _ _ => rfl
  obtain ⟨ka, sa, na⟩ := a
  obtain ⟨kb, sb, nb⟩ := b
  cases ha
  cases hb
  unfold xg_sub at hp
  cases sb with
  | zero =>
    cases hp
    refine ⟨ρ, x_ext.rf, Nat.le_refl _, hsat, oa, fun r => ?_⟩
    rw [x_in0 rfl, x_in0 rfl, hE, x_in0 rfl, ← Int32.ofInt_sub]
    congr 4
    cases sa with
    | zero => rfl
    | succ sa => show ρ sa + na - nb = ρ sa + (na - nb); omega
  | succ sb =>
    dsimp only at hp
    cases hq : Nat.beq sa (sb + 1) with
    | true =>
      rw [hq] at hp
      cases hp
      have := Nat.eq_of_beq_eq_true hq
      subst this
      refine ⟨ρ, x_ext.rf, Nat.le_refl _, hsat, Nat.zero_le _, fun r => ?_⟩
      rw [x_in0 rfl, x_in0 rfl, hE, x_in0 rfl, ← Int32.ofInt_sub]
      congr 4
      show ρ sb + na - (ρ sb + nb) = na - nb
      omega
    | false =>
      rw [hq] at hp
      exact xg_ti_ok hE env _ _ p ρ hp rfl rfl hsat oa ob
/-- both not below 0, what comes isn't too great -/
noncomputable def xg_mul (env : xE) (a b : xv) : Option (xv × xE) := match x_bd env a with
  | none => none
  | some p => match x_bd env b with
    | none => none
    | some q => match x_le 0 p.1 && (x_le 0 q.1 && x_le (p.2 * q.2) 2147483647) with
      | true => some (x_nw 0 (p.1 * q.1, p.2 * q.2, false) env)
      | false => some (x_nw 0 x_fi env)
theorem xg_mul_ok : x_g2 0 0 (ev_s .imul .null) xg_mul := by
  intro env a b p ρ hp ha hb hsat oa ob
  have hE : ∀ (x y : Int32) (r : List Value), ev_s .imul .null (.int y :: .int x :: r) = some (.int (x * y) :: r) := fun _ _ _ => rfl
  unfold xg_mul at hp
  split at hp
  · cases hp
  · rename_i pa hpa
    split at hp
    · cases hp
    · rename_i qb hqb
      split at hp
      · rename_i hc
        obtain ⟨la, ua⟩ := pa
        obtain ⟨lb, ub⟩ := qb
        simp only [Bool.and_eq_true] at hc
        obtain ⟨c1, c2, c3⟩ := hc
        have c1 := x_le_iff.mp c1
        have c2 := x_le_iff.mp c2
        have c3 := x_le_iff.mp c3
        have b1 := x_bd_ok hsat hpa
        have b2 := x_bd_ok hsat hqb
        have m1 : la * lb ≤ x_vl ρ a * x_vl ρ b := Int.mul_le_mul b1.1 b2.1 c2 (Int.le_trans c1 b1.1)
        have m2 : x_vl ρ a * x_vl ρ b ≤ ua * ub := Int.mul_le_mul b1.2 b2.2 (Int.le_trans c2 b2.1) (Int.le_trans c1 (Int.le_trans b1.1 b1.2))
        have m0 : 0 ≤ la * lb := Int.mul_nonneg c1 c2
        cases hp
        have hz : x_s1 (la * lb, ua * ub, false) (Int32.ofInt (x_vl ρ a) * Int32.ofInt (x_vl ρ b)).toInt := by
          rw [← Int32.ofInt_mul, x_i32 (by omega) (by omega)]
          exact Or.inl ⟨m1, m2⟩
        obtain ⟨ρ', g1, g2, g3, g4, g5⟩ := x_nwi hsat hz
        exact ⟨ρ', g1, g2, g3, g4, fun r => by rw [x_in0 ha, x_in0 hb, hE, g5]⟩
      · exact xg_ti_ok hE env _ _ p ρ hp ha hb hsat oa ob
theorem x_andle {x y : Int32} (h : 0 ≤ y.toInt) : 0 ≤ (x &&& y).toInt ∧ (x &&& y).toInt ≤ y.toInt := by
  have hy : y.toInt = y.toBitVec.toInt := rfl
  have hxy : (x &&& y).toInt = (x.toBitVec &&& y.toBitVec).toInt := rfl
  rw [hy] at h ⊢
  rw [hxy]
  generalize x.toBitVec = u at *
  generalize y.toBitVec = w at *
  have h1 := BitVec.toInt_eq_toNat_cond w
  have h2 := BitVec.toInt_eq_toNat_cond (u &&& w)
  have h3 : (u &&& w).toNat ≤ w.toNat := by rw [BitVec.toNat_and]; exact Nat.and_le_right
  have h4 := w.isLt
  have h5 : 2 * w.toNat < 2 ^ 32 := by
    by_cases hc : 2 * w.toNat < 2 ^ 32
    · exact hc
    · rw [if_neg hc] at h1
      omega
  rw [if_pos h5] at h1
  rw [if_pos (by omega)] at h2
  omega
noncomputable def xg_and (env : xE) (a b : xv) : Option (xv × xE) := match x_bd env b with
  | none => none
  | some q => match x_le 0 q.1 && x_le q.2 2147483647 with
    | true => some (x_nw 0 (0, q.2, false) env)
    | false => match x_bd env a with
      | none => none
      | some p => match x_le 0 p.1 && x_le p.2 2147483647 with
        | true => some (x_nw 0 (0, p.2, false) env)
        | false => some (x_nw 0 x_fi env)
theorem xg_and_ok : x_g2 0 0 (ev_s .iand .null) xg_and := by
  intro env a b p ρ hp ha hb hsat oa ob
  have hE : ∀ (x y : Int32) (r : List Value), ev_s .iand .null (.int y :: .int x :: r) = some (.int (x &&& y) :: r) := fun _ _ _ => rfl
  unfold xg_and at hp
  split at hp
  · cases hp
  · rename_i q hq
    split at hp
    · rename_i hc
      obtain ⟨lb, ub⟩ := q
      rw [Bool.and_eq_true] at hc
      have c1 : 0 ≤ lb := x_le_iff.mp hc.1
      have c2 : ub ≤ 2147483647 := x_le_iff.mp hc.2
      have b2 := x_bd_ok hsat hq
      cases hp
      have e1 : (Int32.ofInt (x_vl ρ b)).toInt = x_vl ρ b := x_i32 (by omega) (by omega)
      have h1 := x_andle (x := Int32.ofInt (x_vl ρ a)) (y := Int32.ofInt (x_vl ρ b)) (by omega)
      obtain ⟨ρ', g1, g2, g3, g4, g5⟩ := x_nwi (e := (0, ub, false)) (z := Int32.ofInt (x_vl ρ a) &&& Int32.ofInt (x_vl ρ b)) hsat (Or.inl ⟨h1.1, by show _ ≤ ub; omega⟩)
      exact ⟨ρ', g1, g2, g3, g4, fun r => by rw [x_in0 ha, x_in0 hb, hE, g5]⟩
    · split at hp
      · cases hp
      · rename_i pa hpa
        split at hp
        · rename_i hc
          obtain ⟨la, ua⟩ := pa
          rw [Bool.and_eq_true] at hc
          have c1 : 0 ≤ la := x_le_iff.mp hc.1
          have c2 : ua ≤ 2147483647 := x_le_iff.mp hc.2
          have b2 := x_bd_ok hsat hpa
          cases hp
          have e1 : (Int32.ofInt (x_vl ρ a)).toInt = x_vl ρ a := x_i32 (by omega) (by omega)
          have h1 := x_andle (x := Int32.ofInt (x_vl ρ b)) (y := Int32.ofInt (x_vl ρ a)) (by omega)
          rw [Int32.and_comm] at h1
          obtain ⟨ρ', g1, g2, g3, g4, g5⟩ := x_nwi (e := (0, ua, false)) (z := Int32.ofInt (x_vl ρ a) &&& Int32.ofInt (x_vl ρ b)) hsat (Or.inl ⟨h1.1, by show _ ≤ ua; omega⟩)
          exact ⟨ρ', g1, g2, g3, g4, fun r => by rw [x_in0 ha, x_in0 hb, hE, g5]⟩
        · exact xg_ti_ok hE env _ _ p ρ hp ha hb hsat oa ob
