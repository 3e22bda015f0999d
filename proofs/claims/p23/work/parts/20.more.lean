/-! dividing, longs, what is turned into what -/
theorem x_tdiv_nn {a b : Int} (ha : 0 ≤ a) (hb : 1 ≤ b) : 0 ≤ a.tdiv b ∧ a.tdiv b ≤ a := by
  rw [Int.tdiv_eq_ediv_of_nonneg ha]
  exact ⟨Int.ediv_nonneg ha (by omega), Int.ediv_le_self b ha⟩
theorem x_div32 {a b : Int} (a1 : -2147483648 ≤ a) (a2 : a ≤ 2147483647) (b1 : 1 ≤ b) (b2 : b ≤ 2147483647) : Int32.ofInt a / Int32.ofInt b = Int32.ofInt (a.tdiv b) :=
  (Int32.ofInt_tdiv (by show (-2147483648 : Int) ≤ _; omega) (by show _ ≤ (2147483647 : Int); omega) (by show (-2147483648 : Int) ≤ _; omega) (by show _ ≤ (2147483647 : Int); omega)).symm
theorem x_ne32 {b : Int} (b1 : 1 ≤ b) (b2 : b ≤ 2147483647) : ¬ Int32.ofInt b = 0 := fun h => by
  have := congrArg Int32.toInt h
  rw [x_i32 (by omega) b2] at this
  have e : (0 : Int32).toInt = 0 := by decide
  omega
theorem x_rem32 {a b : Int} (a1 : -2147483648 ≤ a) (a2 : a ≤ 2147483647) (b1 : 1 ≤ b) (b2 : b ≤ 2147483647) : Int32.ofInt a - Int32.ofInt a / Int32.ofInt b * Int32.ofInt b = Int32.ofInt (a.tmod b) := by
  rw [x_div32 a1 a2 b1 b2, ← Int32.ofInt_mul, ← Int32.ofInt_sub]
  congr 1
  have := Int.mul_tdiv_add_tmod a b
  rw [Int.mul_comm] at this
  omega
noncomputable def xg_div (env : xE) (a b : xv) : Option (xv × xE) := match x_wi 1 2147483647 env b with
  | false => none
  | true => match x_bd env a with
    | none => none
    | some p => match x_le (-2147483648) p.1 && x_le p.2 2147483647 with
      | false => none
      | true => match b.2.1 with
        | 0 => match a.2.1 with
          | 0 => some ((0, 0, a.2.2.tdiv b.2.2), env)
          | _ + 1 => match x_le 0 p.1 with
            | true => some (x_nw 0 (p.1.tdiv b.2.2, p.2.tdiv b.2.2, false) env)
            | false => some (x_nw 0 x_fi env)
        | _ + 1 => match x_le 0 p.1 with
          | true => some (x_nw 0 (0, p.2, false) env)
          | false => some (x_nw 0 x_fi env)
theorem xg_div_ok : x_g2 0 0 (ev_s .idiv .null) xg_div := by
  intro env a b p ρ hp ha hb hsat oa ob
  have hE : ∀ (x y : Int32) (r : List Value), ¬ y = 0 → ev_s .idiv .null (.int y :: .int x :: r) = some (.int (x / y) :: r) := fun x y r h => by
    show (if y = 0 then none else some (Value.int (x / y) :: r)) = _
    rw [if_neg h]
  unfold xg_div at hp
  split at hp
  · cases hp
  · rename_i hw
    obtain ⟨w1, w2⟩ := x_wi_ok hsat hw
    have hne := x_ne32 w1 w2
    split at hp
    · cases hp
    · rename_i q hq
      split at hp
      · cases hp
      · rename_i hr
        obtain ⟨la, ua⟩ := q
        rw [Bool.and_eq_true] at hr
        have r1 : -2147483648 ≤ la := x_le_iff.mp hr.1
        have r2 : ua ≤ 2147483647 := x_le_iff.mp hr.2
        have b1 := x_bd_ok hsat hq
        have hd := x_div32 (a := x_vl ρ a) (b := x_vl ρ b) (by omega) (by omega) w1 w2
        split at hp
        · rename_i hb0
          rw [x_vl0 hb0] at w1 w2 hd hne
          split at hp
          · rename_i ha0
            cases hp
            refine ⟨ρ, x_ext.rf, Nat.le_refl _, hsat, Nat.zero_le _, fun r => ?_⟩
            rw [x_in0 ha, x_in0 hb, x_vl0 hb0, hE _ _ _ hne, hd, x_in0 rfl, x_vl0 ha0]
            rfl
          · split at hp
            · rename_i h0
              have h0 : 0 ≤ la := x_le_iff.mp h0
              cases hp
              have m1 : la.tdiv b.2.2 ≤ (x_vl ρ a).tdiv b.2.2 := by
                rw [Int.tdiv_eq_ediv_of_nonneg h0, Int.tdiv_eq_ediv_of_nonneg (by omega)]
                exact Int.ediv_le_ediv (by omega) b1.1
              have m2 : (x_vl ρ a).tdiv b.2.2 ≤ ua.tdiv b.2.2 := by
                rw [Int.tdiv_eq_ediv_of_nonneg (show 0 ≤ x_vl ρ a by omega), Int.tdiv_eq_ediv_of_nonneg (show 0 ≤ ua by omega)]
                exact Int.ediv_le_ediv (by omega) b1.2
              have m3 := x_tdiv_nn (a := x_vl ρ a) (b := b.2.2) (by omega) w1
              have hz : x_s1 (la.tdiv b.2.2, ua.tdiv b.2.2, false) (Int32.ofInt ((x_vl ρ a).tdiv b.2.2)).toInt := by
                rw [x_i32 (by omega) (by omega)]
                exact Or.inl ⟨m1, m2⟩
              obtain ⟨ρ', g1, g2, g3, g4, g5⟩ := x_nwi hsat hz
              exact ⟨ρ', g1, g2, g3, g4, fun r => by rw [x_in0 ha, x_in0 hb, x_vl0 hb0, hE _ _ _ hne, hd, g5]⟩
            · cases hp
              obtain ⟨ρ', g1, g2, g3, g4, g5⟩ := x_nwi hsat (x_fi_ok (Int32.ofInt (x_vl ρ a) / Int32.ofInt b.2.2))
              exact ⟨ρ', g1, g2, g3, g4, fun r => by rw [x_in0 ha, x_in0 hb, x_vl0 hb0, hE _ _ _ hne, g5]⟩
        · split at hp
          · rename_i h0
            have h0 : 0 ≤ la := x_le_iff.mp h0
            cases hp
            have m3 := x_tdiv_nn (a := x_vl ρ a) (b := x_vl ρ b) (by omega) w1
            have hz : x_s1 (0, ua, false) (Int32.ofInt ((x_vl ρ a).tdiv (x_vl ρ b))).toInt := by
              rw [x_i32 (by omega) (by omega)]
              exact Or.inl ⟨m3.1, by show _ ≤ ua; omega⟩
            obtain ⟨ρ', g1, g2, g3, g4, g5⟩ := x_nwi hsat hz
            exact ⟨ρ', g1, g2, g3, g4, fun r => by rw [x_in0 ha, x_in0 hb, hE _ _ _ hne, hd, g5]⟩
          · cases hp
            obtain ⟨ρ', g1, g2, g3, g4, g5⟩ := x_nwi hsat (x_fi_ok (Int32.ofInt (x_vl ρ a) / Int32.ofInt (x_vl ρ b)))
            exact ⟨ρ', g1, g2, g3, g4, fun r => by rw [x_in0 ha, x_in0 hb, hE _ _ _ hne, g5]⟩
noncomputable def xg_rem (env : xE) (a b : xv) : Option (xv × xE) := match x_bd env b with
  | none => none
  | some q => match x_le 1 q.1 && x_le q.2 2147483647 with
    | false => none
    | true => match x_bd env a with
      | none => none
      | some p => match x_le (-2147483648) p.1 && x_le p.2 2147483647 with
        | false => none
        | true => match a.2.1 + b.2.1 with
          | 0 => some ((0, 0, a.2.2.tmod b.2.2), env)
          | _ + 1 => match x_le 0 p.1 with
            | true => match x_le (p.2 + 1) q.1 with
              | true => some (a, env)
              | false => some (x_nw 0 (0, q.2 - 1, false) env)
            | false => some (x_nw 0 x_fi env)
theorem xg_rem_ok : x_g2 0 0 (ev_s .irem .null) xg_rem := by
  intro env a b p ρ hp ha hb hsat oa ob
  have hE : ∀ (x y : Int32) (r : List Value), ¬ y = 0 → ev_s .irem .null (.int y :: .int x :: r) = some (.int (x - x / y * y) :: r) := fun x y r h => by
    show (if y = 0 then none else some (Value.int (x - x / y * y) :: r)) = _
    rw [if_neg h]
  unfold xg_rem at hp
  split at hp
  · cases hp
  · rename_i qb hqb
    split at hp
    · cases hp
    · rename_i hw
      obtain ⟨lb, ub⟩ := qb
      rw [Bool.and_eq_true] at hw
      have w1 : 1 ≤ lb := x_le_iff.mp hw.1
      have w2 : ub ≤ 2147483647 := x_le_iff.mp hw.2
      have bb := x_bd_ok hsat hqb
      have hne := x_ne32 (b := x_vl ρ b) (by omega) (by omega)
      split at hp
      · cases hp
      · rename_i q hq
        split at hp
        · cases hp
        · rename_i hr
          obtain ⟨la, ua⟩ := q
          rw [Bool.and_eq_true] at hr
          have r1 : -2147483648 ≤ la := x_le_iff.mp hr.1
          have r2 : ua ≤ 2147483647 := x_le_iff.mp hr.2
          have b1 := x_bd_ok hsat hq
          have hd := x_rem32 (a := x_vl ρ a) (b := x_vl ρ b) (by omega) (by omega) (by omega) (by omega)
          split at hp
          · rename_i hz
            cases hp
            have za : a.2.1 = 0 := by omega
            have zb : b.2.1 = 0 := by omega
            refine ⟨ρ, x_ext.rf, Nat.le_refl _, hsat, Nat.zero_le _, fun r => ?_⟩
            rw [x_in0 ha, x_in0 hb, hE _ _ _ hne, hd, x_in0 rfl, x_vl0 za, x_vl0 zb]
            rfl
          · split at hp
            · rename_i h0
              have h0 : 0 ≤ la := x_le_iff.mp h0
              have e1 : (x_vl ρ a).tmod (x_vl ρ b) = x_vl ρ a % x_vl ρ b := Int.tmod_eq_emod_of_nonneg (by omega)
              split at hp
              · rename_i h1
                have h1 : ua + 1 ≤ lb := x_le_iff.mp h1
                cases hp
                refine ⟨ρ, x_ext.rf, Nat.le_refl _, hsat, oa, fun r => ?_⟩
                rw [x_in0 hb, x_in0 ha, hE _ _ _ hne, hd, e1, Int.emod_eq_of_lt (by omega) (by omega)]
              · cases hp
                have m1 := Int.emod_nonneg (x_vl ρ a) (show x_vl ρ b ≠ 0 by omega)
                have m2 := Int.emod_lt_of_pos (x_vl ρ a) (show 0 < x_vl ρ b by omega)
                have hz : x_s1 (0, ub - 1, false) (Int32.ofInt ((x_vl ρ a).tmod (x_vl ρ b))).toInt := by
                  rw [e1, x_i32 (by omega) (by omega)]
                  exact Or.inl ⟨m1, by show _ ≤ ub - 1; omega⟩
                obtain ⟨ρ', g1, g2, g3, g4, g5⟩ := x_nwi hsat hz
                exact ⟨ρ', g1, g2, g3, g4, fun r => by rw [x_in0 ha, x_in0 hb, hE _ _ _ hne, hd, g5]⟩
            · cases hp
              obtain ⟨ρ', g1, g2, g3, g4, g5⟩ := x_nwi hsat (x_fi_ok (Int32.ofInt (x_vl ρ a) - Int32.ofInt (x_vl ρ a) / Int32.ofInt (x_vl ρ b) * Int32.ofInt (x_vl ρ b)))
              exact ⟨ρ', g1, g2, g3, g4, fun r => by rw [x_in0 ha, x_in0 hb, hE _ _ _ hne, g5]⟩
/-! one number -/
def xg_neg (env : xE) (a : xv) : Option (xv × xE) := match a.2.1 with
  | 0 => some ((0, 0, -a.2.2), env)
  | _ + 1 => some (x_nw 0 x_fi env)
theorem xg_neg_ok : x_g1 0 (ev_s .ineg .null) xg_neg := by
  intro env a p ρ hp ha hsat oa
  have hE : ∀ (x : Int32) (r : List Value), ev_s .ineg .null (.int x :: r) = some (.int (-x) :: r) := fun _ _ => rfl
  unfold xg_neg at hp
  split at hp
  · rename_i h0
    cases hp
    refine ⟨ρ, x_ext.rf, Nat.le_refl _, hsat, Nat.zero_le _, fun r => ?_⟩
    rw [x_in0 ha, hE, x_vl0 h0, x_in0 rfl, ← Int32.ofInt_neg]
    rfl
  · cases hp
    obtain ⟨ρ', g1, g2, g3, g4, g5⟩ := x_nwi hsat (x_fi_ok (-Int32.ofInt (x_vl ρ a)))
    exact ⟨ρ', g1, g2, g3, g4, fun r => by rw [x_in0 ha, hE, g5]⟩
noncomputable def xg_i2l (env : xE) (a : xv) : Option (xv × xE) := match x_wi (-2147483648) 2147483647 env a with
  | true => some ((1, a.2.1, a.2.2), env)
  | false => none
theorem xg_i2l_ok : x_g1 0 (ev_s .i2l .null) xg_i2l := by
  intro env a p ρ hp ha hsat oa
  have hE : ∀ (x : Int32) (r : List Value), ev_s .i2l .null (.int x :: r) = some (.long x.toInt64 :: r) := fun _ _ => rfl
  unfold xg_i2l at hp
  split at hp
  · rename_i hw
    cases hp
    obtain ⟨w1, w2⟩ := x_wi_ok hsat hw
    refine ⟨ρ, x_ext.rf, Nat.le_refl _, hsat, oa, fun r => ?_⟩
    rw [x_in0 ha, hE, x_in1 rfl, Int32.toInt64_ofInt (by show (-2147483648 : Int) ≤ _; omega) (by show _ ≤ (2147483647 : Int); omega)]
    rfl
  · cases hp
def xg_l2i (env : xE) (a : xv) : Option (xv × xE) := some ((0, a.2.1, a.2.2), env)
theorem xg_l2i_ok : x_g1 1 (ev_s .l2i .null) xg_l2i := by
  intro env a p ρ hp ha hsat oa
  have hE : ∀ (x : Int64) (r : List Value), ev_s .l2i .null (.long x :: r) = some (.int x.toInt32 :: r) := fun _ _ => rfl
  cases hp
  refine ⟨ρ, x_ext.rf, Nat.le_refl _, hsat, oa, fun r => ?_⟩
  rw [x_in1 ha, hE, x_in0 rfl, Int64.toInt32_ofInt]
  rfl
theorem x_i2c_mod {x : Int32} : (x.toUInt32 % 65536).toInt32.toInt = (x.toUInt32.toNat % 65536 : Nat) := by
  have h : (x.toUInt32 % 65536).toInt32.toInt = (x.toUInt32 % 65536).toBitVec.toInt := rfl
  rw [h, BitVec.toInt_eq_toNat_of_lt]
  · rfl
  · have : (x.toUInt32 % 65536).toBitVec.toNat = x.toUInt32.toNat % 65536 := rfl
    rw [this]
    omega
noncomputable def xg_i2c (env : xE) (a : xv) : Option (xv × xE) := match x_wi 0 65535 env a with
  | true => some (a, env)
  | false => some (x_nw 0 (0, 65535, false) env)
theorem xg_i2c_ok : x_g1 0 (ev_s .i2c .null) xg_i2c := by
  intro env a p ρ hp ha hsat oa
  have hE : ∀ (x : Int32) (r : List Value), ev_s .i2c .null (.int x :: r) = some (.int (x.toUInt32 % 65536).toInt32 :: r) := fun _ _ => rfl
  unfold xg_i2c at hp
  split at hp
  · rename_i hw
    cases hp
    obtain ⟨w1, w2⟩ := x_wi_ok hsat hw
    refine ⟨ρ, x_ext.rf, Nat.le_refl _, hsat, oa, fun r => ?_⟩
    rw [x_in0 ha, hE]
    congr 3
    apply Int32.toInt_inj.mp
    rw [x_i2c_mod]
    have e1 : (Int32.ofInt (x_vl ρ a)).toInt = x_vl ρ a := x_i32 (by omega) (by omega)
    have e2 : (Int32.ofInt (x_vl ρ a)).toInt = (Int32.ofInt (x_vl ρ a)).toUInt32.toBitVec.toInt := rfl
    have e3 := BitVec.toInt_eq_toNat_cond (Int32.ofInt (x_vl ρ a)).toUInt32.toBitVec
    have e4 : (Int32.ofInt (x_vl ρ a)).toUInt32.toBitVec.toNat = (Int32.ofInt (x_vl ρ a)).toUInt32.toNat := rfl
    rw [e4] at e3
    rw [e1]
    split at e3
    · omega
    · have := (Int32.ofInt (x_vl ρ a)).toUInt32.toNat_lt
      omega
  · cases hp
    have hz : x_s1 (0, 65535, false) ((Int32.ofInt (x_vl ρ a)).toUInt32 % 65536).toInt32.toInt := by
      rw [x_i2c_mod]
      exact Or.inl ⟨by show (0 : Int) ≤ _; omega, by show _ ≤ (65535 : Int); omega⟩
    obtain ⟨ρ', g1, g2, g3, g4, g5⟩ := x_nwi hsat hz
    exact ⟨ρ', g1, g2, g3, g4, fun r => by rw [x_in0 ha, hE, g5]⟩
/-! longs -/
def xg_l (op : Int64 → Int64 → Int64) (env : xE) (a b : xv) : Option (xv × xE) := match a.2.1 + b.2.1 with
  | 0 => some ((1, 0, (op (Int64.ofInt a.2.2) (Int64.ofInt b.2.2)).toInt), env)
  | _ + 1 => some (x_nw 1 x_fl env)
theorem xg_l_ok {E : List Value → Option (List Value)} {op : Int64 → Int64 → Int64} (hE : ∀ x y r, E (.long y :: .long x :: r) = some (.long (op x y) :: r)) : x_g2 1 1 E (xg_l op) := by
  intro env a b p ρ hp ha hb hsat oa ob
  unfold xg_l at hp
  split at hp
  · rename_i hz
    cases hp
    have za : a.2.1 = 0 := by omega
    have zb : b.2.1 = 0 := by omega
    refine ⟨ρ, x_ext.rf, Nat.le_refl _, hsat, Nat.zero_le _, fun r => ?_⟩
    rw [x_in1 ha, x_in1 hb, hE, x_vl0 za, x_vl0 zb, x_in1 rfl]
    show _ = some (.long (Int64.ofInt ((op (Int64.ofInt a.2.2) (Int64.ofInt b.2.2)).toInt)) :: r)
    rw [Int64.ofInt_toInt]
  · cases hp
    obtain ⟨ρ', g1, g2, g3, g4, g5⟩ := x_nwl hsat (x_fl_ok (op (Int64.ofInt (x_vl ρ a)) (Int64.ofInt (x_vl ρ b))))
    exact ⟨ρ', g1, g2, g3, g4, fun r => by rw [x_in1 ha, x_in1 hb, hE, g5]⟩
def xg_ls (op : Int64 → Int32 → Int64) (env : xE) (a b : xv) : Option (xv × xE) := match a.2.1 + b.2.1 with
  | 0 => some ((1, 0, (op (Int64.ofInt a.2.2) (Int32.ofInt b.2.2)).toInt), env)
  | _ + 1 => some (x_nw 1 x_fl env)
theorem xg_ls_ok {E : List Value → Option (List Value)} {op : Int64 → Int32 → Int64} (hE : ∀ x y r, E (.int y :: .long x :: r) = some (.long (op x y) :: r)) : x_g2 1 0 E (xg_ls op) := by
  intro env a b p ρ hp ha hb hsat oa ob
  unfold xg_ls at hp
  split at hp
  · rename_i hz
    cases hp
    have za : a.2.1 = 0 := by omega
    have zb : b.2.1 = 0 := by omega
    refine ⟨ρ, x_ext.rf, Nat.le_refl _, hsat, Nat.zero_le _, fun r => ?_⟩
    rw [x_in1 ha, x_in0 hb, hE, x_vl0 za, x_vl0 zb, x_in1 rfl]
    show _ = some (.long (Int64.ofInt ((op (Int64.ofInt a.2.2) (Int32.ofInt b.2.2)).toInt)) :: r)
    rw [Int64.ofInt_toInt]
  · cases hp
    obtain ⟨ρ', g1, g2, g3, g4, g5⟩ := x_nwl hsat (x_fl_ok (op (Int64.ofInt (x_vl ρ a)) (Int32.ofInt (x_vl ρ b))))
    exact ⟨ρ', g1, g2, g3, g4, fun r => by rw [x_in1 ha, x_in0 hb, hE, g5]⟩
/-- the divisor is a known number, not 0 -/
def xg_lrem (env : xE) (a b : xv) : Option (xv × xE) := match b.2.1 with
  | 0 => match decide (Int64.ofInt b.2.2 = 0) with
    | true => none
    | false => match a.2.1 with
      | 0 => some ((1, 0, (Int64.ofInt a.2.2 - Int64.ofInt a.2.2 / Int64.ofInt b.2.2 * Int64.ofInt b.2.2).toInt), env)
      | _ + 1 => some (x_nw 1 x_fl env)
  | _ + 1 => none
theorem xg_lrem_ok : x_g2 1 1 (ev_s .lrem .null) xg_lrem := by
  intro env a b p ρ hp ha hb hsat oa ob
  have hE : ∀ (x y : Int64) (r : List Value), ¬ y = 0 → ev_s .lrem .null (.long y :: .long x :: r) = some (.long (x - x / y * y) :: r) := fun x y r h => by
    show (if y = 0 then none else some (Value.long (x - x / y * y) :: r)) = _
    rw [if_neg h]
  unfold xg_lrem at hp
  split at hp
  · rename_i zb
    split at hp
    · cases hp
    · rename_i hd
      have hd := of_decide_eq_false hd
      split at hp
      · rename_i za
        cases hp
        refine ⟨ρ, x_ext.rf, Nat.le_refl _, hsat, Nat.zero_le _, fun r => ?_⟩
        rw [x_in1 ha, x_in1 hb, x_vl0 zb, hE _ _ _ hd, x_vl0 za, x_in1 rfl]
        show _ = some (.long (Int64.ofInt ((Int64.ofInt a.2.2 - Int64.ofInt a.2.2 / Int64.ofInt b.2.2 * Int64.ofInt b.2.2).toInt)) :: r)
        rw [Int64.ofInt_toInt]
      · cases hp
        obtain ⟨ρ', g1, g2, g3, g4, g5⟩ := x_nwl hsat (x_fl_ok (Int64.ofInt (x_vl ρ a) - Int64.ofInt (x_vl ρ a) / Int64.ofInt b.2.2 * Int64.ofInt b.2.2))
        exact ⟨ρ', g1, g2, g3, g4, fun r => by rw [x_in1 ha, x_in1 hb, x_vl0 zb, hE _ _ _ hd, g5]⟩
  · cases hp
