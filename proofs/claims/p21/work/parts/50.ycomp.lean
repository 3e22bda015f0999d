/-! numbers by trying each; longs -/
/-- the range of op at a known number and each number l to l + m -/
noncomputable def y_en (op : Int32 → Int32 → Int32) (a : Int) (l : Nat) (m : Nat) : Int × Int × Bool := Nat.rec (motive := fun _ => Int × Int × Bool) ((op (Int32.ofInt a) (Int32.ofInt (Int.ofNat l))).toInt, (op (Int32.ofInt a) (Int32.ofInt (Int.ofNat l))).toInt, false) (fun k ih => y_hu ih ((op (Int32.ofInt a) (Int32.ofInt (Int.ofNat (l + (k + 1))))).toInt, (op (Int32.ofInt a) (Int32.ofInt (Int.ofNat (l + (k + 1))))).toInt, false)) m
theorem y_en_ok {op : Int32 → Int32 → Int32} {a : Int} {l : Nat} : ∀ {m : Nat} (k : Nat), l ≤ k → k ≤ l + m → x_s1 (y_en op a l m) (op (Int32.ofInt a) (Int32.ofInt (k : Int))).toInt := by
  intro m
  induction m with
  | zero =>
    intro k h1 h2
    have : k = l := by omega
    subst this
    exact Or.inl ⟨Int.le_refl _, Int.le_refl _⟩
  | succ m ih =>
    intro k h1 h2
    by_cases hk : k = l + (m + 1)
    · subst hk
      exact y_hu_r (Or.inl ⟨Int.le_refl _, Int.le_refl _⟩)
    · exact y_hu_l (ih k h1 (by omega))
noncomputable def yg_en (op : Int32 → Int32 → Int32) (env : xE) (a b : xv) : Option (xv × xE) := match a.2.1 with
  | 0 => match y_bn env b with
    | some p => match Nat.ble p.2 40 with
      | true => some (x_nw 0 (y_en op a.2.2 p.1 (p.2 - p.1)) env)
      | false => some (x_nw 0 x_fi env)
    | none => some (x_nw 0 x_fi env)
  | _ + 1 => some (x_nw 0 x_fi env)
theorem yg_en_ok {E : List Value → Option (List Value)} {op : Int32 → Int32 → Int32} (hE : ∀ x y r, E (.int y :: .int x :: r) = some (.int (op x y) :: r)) : x_g2 0 0 E (yg_en op) := y_g2_of hE (by
  intro env a b p ρ hp hsat oa ob
  unfold yg_en at hp
  split at hp
  · rename_i ha
    split at hp
    · rename_i q hq
      split at hp
      · cases hp
        obtain ⟨l, u⟩ := q
        obtain ⟨k, k1, k2, k3, k4⟩ := y_bn_ok hq hsat
        refine Or.inr ⟨_, rfl, ?_⟩
        rw [x_vl0 ha, k1]
        exact y_en_ok k k2 (by dsimp only; omega)
      · cases hp; exact Or.inr ⟨_, rfl, x_fi_ok _⟩
    · cases hp; exact Or.inr ⟨_, rfl, x_fi_ok _⟩
  · cases hp; exact Or.inr ⟨_, rfl, x_fi_ok _⟩)
/-- what is left of a long that isn't below 0 -/
noncomputable def yg_lrem (env : xE) (a b : xv) : Option (xv × xE) := match Nat.beq b.2.1 0 && (x_le 1 b.2.2 && (x_le b.2.2 9223372036854775807 && x_wi 0 9223372036854775807 env a)) with
  | true => match a.2.1 with
    | 0 => xg_lrem env a b
    | _ + 1 => some (x_nw 1 (0, b.2.2 - 1, false) env)
  | false => xg_lrem env a b
theorem yg_lrem_ok : x_g2 1 1 (ev_s .lrem .null) yg_lrem := by
  intro env a b p ρ hp ha hb hsat oa ob
  unfold yg_lrem at hp
  split at hp
  · rename_i hc
    split at hp
    · exact xg_lrem_ok env a b p ρ hp ha hb hsat oa ob
    · cases hp
      simp only [Bool.and_eq_true] at hc
      obtain ⟨c1, c2, c3, c4⟩ := hc
      have c1 := Nat.eq_of_beq_eq_true c1
      have c2 := x_le_iff.mp c2
      have c3 := x_le_iff.mp c3
      obtain ⟨w1, w2⟩ := x_wi_ok hsat c4
      have eb := x_i64 (a := b.2.2) (by omega) c3
      have hne : ¬ Int64.ofInt b.2.2 = 0 := fun h => by
        have := congrArg Int64.toInt h
        rw [eb] at this
        have e : (0 : Int64).toInt = 0 := by decide
        omega
      have hd : Int64.ofInt (x_vl ρ a) / Int64.ofInt b.2.2 = Int64.ofInt ((x_vl ρ a).tdiv b.2.2) := (Int64.ofInt_tdiv (by show (-9223372036854775808 : Int) ≤ _; omega) (by show _ ≤ (9223372036854775807 : Int); omega) (by show (-9223372036854775808 : Int) ≤ _; omega) (by show _ ≤ (9223372036854775807 : Int); omega)).symm
      have hm : Int64.ofInt (x_vl ρ a) - Int64.ofInt (x_vl ρ a) / Int64.ofInt b.2.2 * Int64.ofInt b.2.2 = Int64.ofInt (x_vl ρ a % b.2.2) := by
        rw [hd, ← Int64.ofInt_mul, ← Int64.ofInt_sub]
        congr 1
        have := Int.mul_tdiv_add_tmod (x_vl ρ a) b.2.2
        rw [Int.mul_comm, Int.tmod_eq_emod_of_nonneg w1] at this
        omega
      have m1 := Int.emod_nonneg (x_vl ρ a) (show b.2.2 ≠ 0 by omega)
      have m2 := Int.emod_lt_of_pos (x_vl ρ a) (show 0 < b.2.2 by omega)
      have hz : x_s1 (0, b.2.2 - 1, false) (Int64.ofInt (x_vl ρ a % b.2.2)).toInt := by
        rw [x_i64 (by omega) (by omega)]
        exact Or.inl ⟨m1, by show _ ≤ b.2.2 - 1; omega⟩
      obtain ⟨ρ', g1, g2, g3, g4, g5⟩ := x_nwl hsat hz
      refine ⟨ρ', g1, g2, g3, g4, fun r => ?_⟩
      rw [x_in1 ha, x_in1 hb, x_vl0 c1, g5, ← hm]
      show (if Int64.ofInt b.2.2 = 0 then none else some (Value.long (Int64.ofInt (x_vl ρ a) - Int64.ofInt (x_vl ρ a) / Int64.ofInt b.2.2 * Int64.ofInt b.2.2) :: r)) = _
      rw [if_neg hne]
  · exact xg_lrem_ok env a b p ρ hp ha hb hsat oa ob
/-- a long pushed to the right by 33: its upper 31 bits -/
theorem y_ushr {x : Int64} : 0 ≤ (x_lushr x 33).toInt ∧ (x_lushr x 33).toInt ≤ 2147483647 := by
  have e : (x_lushr x 33).toInt = (x.toUInt64 >>> 33).toBitVec.toInt := rfl
  have hn : (x.toUInt64 >>> 33).toBitVec.toNat = x.toUInt64.toNat / 2 ^ 33 := by
    show (x.toUInt64 >>> 33).toNat = _
    rw [UInt64.toNat_shiftRight, Nat.shiftRight_eq_div_pow]
    rfl
  have hl := x.toUInt64.toNat_lt
  have hc := BitVec.toInt_eq_toNat_cond (x.toUInt64 >>> 33).toBitVec
  rw [hn, if_pos (by omega)] at hc
  rw [e, hc]
  omega
noncomputable def yg_lushr (env : xE) (a b : xv) : Option (xv × xE) := match Nat.beq b.2.1 0 && x_eq b.2.2 33 with
  | true => match a.2.1 with
    | 0 => xg_ls x_lushr env a b
    | _ + 1 => some (x_nw 1 (0, 2147483647, false) env)
  | false => xg_ls x_lushr env a b
theorem yg_lushr_ok : x_g2 1 0 (ev_s .lushr .null) yg_lushr := by
  intro env a b p ρ hp ha hb hsat oa ob
  have hE : ∀ (x : Int64) (y : Int32) (r : List Value), ev_s .lushr .null (.int y :: .long x :: r) = some (.long (x_lushr x y) :: r) := fun _ _ _ => rfl
  unfold yg_lushr at hp
  split at hp
  · rename_i hc
    split at hp
    · exact xg_ls_ok hE env a b p ρ hp ha hb hsat oa ob
    · cases hp
      rw [Bool.and_eq_true] at hc
      have c1 := Nat.eq_of_beq_eq_true hc.1
      have c2 := x_eq_iff.mp hc.2
      obtain ⟨u1, u2⟩ := y_ushr (x := Int64.ofInt (x_vl ρ a))
      obtain ⟨ρ', g1, g2, g3, g4, g5⟩ := x_nwl (e := (0, 2147483647, false)) (z := x_lushr (Int64.ofInt (x_vl ρ a)) 33) hsat (Or.inl ⟨u1, u2⟩)
      refine ⟨ρ', g1, g2, g3, g4, fun r => ?_⟩
      rw [x_in1 ha, x_in0 hb, x_vl0 c1, c2, hE, g5]
      rfl
  · exact xg_ls_ok hE env a b p ρ hp ha hb hsat oa ob
def y_nop : yK := fun _ _ _ _ _ _ => none
theorem ys_nop {h0 : yQ × ev_H} {scx : yX} {I : ev_I} {pc : Nat} : y_S h0 scx I pc y_nop := fun _ _ _ _ _ _ _ h => by cases h
noncomputable def y_op (g : yQ) (scx : yX) (inl : Nat → Option (List xv → yH → xE → yR)) (cts : Nat → List yCt) (rt ini mx fr lo mc ms pc : Nat) (i : Instr) (a b : Nat) (v : Value) (ih : Nat → yK) (next : yK) : yK := match i with
  | .iconst n => yo_push (0, 0, n) next
  | .bipush n => yo_push (0, 0, (Int8.ofInt n).toInt32.toInt) next
  | .sipush n => yo_push (0, 0, (Int16.ofInt n).toInt32.toInt) next
  | .lconst n => yo_push (1, 0, (Int64.ofNat (n : Nat)).toInt) next
  | .ldc_w _ => match v with
    | .int x => yo_push (0, 0, x.toInt) next
    | _ => y_nop
  | .ldc2_w _ => match v with
    | .long x => yo_push (1, 0, x.toInt) next
    | _ => y_nop
  | .iadd => yo_bin 0 0 yg_add next
  | .isub => yo_bin 0 0 yg_sub next
  | .imul => yo_bin 0 0 (xg_i (· * ·) yg_mul) next
  | .iand => yo_bin 0 0 (xg_i (· &&& ·) xg_and) next
  | .ior => yo_bin 0 0 (xg_i (· ||| ·) yg_bit) next
  | .ixor => yo_bin 0 0 (xg_i (· ^^^ ·) yg_bit) next
  | .ishl => yo_bin 0 0 (xg_i x_ishl (yg_en x_ishl)) next
  | .ishr => yo_bin 0 0 (xg_i x_ishr xg_ti) next
  | .iushr => yo_bin 0 0 (xg_i x_iushr xg_ti) next
  | .idiv => yo_dv 0 xg_div next
  | .irem => yo_dv 1 yg_rem next
  | .ineg => yo_un 0 yg_neg next
  | .i2l => yo_un 0 xg_i2l next
  | .i2c => yo_un 0 xg_i2c next
  | .l2i => yo_un 1 xg_l2i next
  | .ladd => yo_bin 1 1 (xg_l (· + ·)) next
  | .lmul => yo_bin 1 1 (xg_l (· * ·)) next
  | .land => yo_bin 1 1 (xg_l (· &&& ·)) next
  | .lor => yo_bin 1 1 (xg_l (· ||| ·)) next
  | .lrem => yo_bin 1 1 yg_lrem next
  | .lshl => yo_bin 1 0 (xg_ls x_lshl) next
  | .lushr => yo_bin 1 0 yg_lushr next
  | .lcmp => yo_lcmp next
  | .dup => yo_dup next
  | .pop => yo_pop next
  | .dup2 => yo_dup2 next
  | .iload_n k => yo_ld 0 k.val next
  | .iload k => yo_ld 0 k next
  | .lload_n k => yo_ld 1 k.val next
  | .lload k => yo_ld 1 k next
  | .aload_n k => yo_lda k.val next
  | .istore_n k => yo_st 0 k.val mx next
  | .istore k => yo_st 0 k mx next
  | .lstore_n k => yo_stL k.val mx next
  | .astore_n k => yo_st 2 k.val mx next
  | .iinc k d => yo_inc k mx d next
  | .getfield _ => yo_gf g a b next
  | .putfield _ => match x_pc a b ini with
    | some c => yo_pf g a b c next
    | none => y_nop
  | .iaload => yo_al g scx 0 next
  | .caload => yo_al g scx 1 next
  | .baload => yo_al g scx 2 next
  | .iastore => yo_as g 0 next
  | .castore => yo_as g 1 next
  | .bastore => yo_as g 2 next
  | .aaload => yo_aa g next
  | .arraylength => yo_len g next
  | .goto _ => ih a
  | .ifCond c _ => yo_if c (ih a) next
  | .if_icmp c _ => yo_ic c (ih a) next
  | .tableswitch d lo9 hi9 offs => match decide ((pc : Int) + d = ((((pc : Int) + d).toNat : Nat) : Int) ∧ offs.toList.map (fun o => (pc : Int) + o) = (offs.toList.map (fun o => ((pc : Int) + o).toNat)).map (fun (k : Nat) => (k : Int)) ∧ hi9 < lo9 + (offs.toList.map (fun o => ((pc : Int) + o).toNat)).length) with
    | true => yo_sw lo9 hi9 ((pc : Int) + d).toNat (offs.toList.map (fun o => ((pc : Int) + o).toNat)) ih
    | false => y_nop
  | .ireturn => yo_ri rt
  | .lreturn => yo_rl rt
  | .return_ => yo_rv rt
  | _ => match ev_k i b with
    | some 0 => match ev_ms a with
      | some ((rt', ini', mx', na', rc', fr', lo', mc', ms', t'), _) => match ev_fit i (rt', ini', mx', na', rc', fr', lo', mc', ms', t') && (Nat.ble (fr' + 1) fr && Nat.ble (8 + (mx' + 11) + lo') lo) with
        | true => match inl a with
          | some m => yo_cl g m rc' na' mx' mc' ms' mc ms next
          | none => yo_cts g (cts a) rc' na' mx' mc' ms' mc ms next
        | false => y_nop
      | none => y_nop
    | some 2 => yo_cp g fr lo next
    | _ => y_nop
section XCO
variable {h0 : yQ × ev_H} {scx : yX} {rt ini mx na rc fr lo mc ms : Nat} {t : ev_T} {pc pp0 a b pp : Nat} {i : Instr} {v : Value} {next : yK}
set_option maxHeartbeats 8000000 in
theorem ys_op {inl : Nat → Option (List xv → yH → xE → yR)} {cts : Nat → List yCt} {ih : Nat → yK} (hf : ev_f t pc = some (pp0, i, a, b, pp, v)) (hinl : ∀ a m, inl a = some m → y_Ma h0 a m) (hcts : ∀ a, ∀ ct ∈ cts a, y_Mca h0.1 a ct) (hi : ∀ p, y_S h0 scx (rt, ini, mx, na, rc, fr, lo, mc, ms, t) p (ih p)) (hn : y_S h0 scx (rt, ini, mx, na, rc, fr, lo, mc, ms, t) (pc + ev_len i) next) : y_S h0 scx (rt, ini, mx, na, rc, fr, lo, mc, ms, t) pc (y_op h0.1 scx inl cts rt ini mx fr lo mc ms pc i a b v ih next) := by
  unfold y_op
  split
  · exact ys_push hf hn rfl (fun _ _ => rfl)
  · exact ys_push hf hn rfl (fun _ _ => by rw [x_in0 rfl]; show _ = some (Value.int (Int32.ofInt (Int32.toInt _)) :: _); rw [Int32.ofInt_toInt]; rfl)
  · exact ys_push hf hn rfl (fun _ _ => by rw [x_in0 rfl]; show _ = some (Value.int (Int32.ofInt (Int32.toInt _)) :: _); rw [Int32.ofInt_toInt]; rfl)
  · exact ys_push hf hn rfl (fun _ _ => by rw [x_in1 rfl]; show _ = some (Value.long (Int64.ofInt (Int64.toInt _)) :: _); rw [Int64.ofInt_toInt]; rfl)
  · split
    · exact ys_push hf hn rfl (fun _ _ => by rw [x_in0 rfl]; show _ = some (Value.int (Int32.ofInt (Int32.toInt _)) :: _); rw [Int32.ofInt_toInt]; rfl)
    · exact ys_nop
  · split
    · exact ys_push hf hn rfl (fun _ _ => by rw [x_in1 rfl]; show _ = some (Value.long (Int64.ofInt (Int64.toInt _)) :: _); rw [Int64.ofInt_toInt]; rfl)
    · exact ys_nop
  · exact ys_bin hf hn yg_add_ok
  · exact ys_bin hf hn yg_sub_ok
  · exact ys_bin hf hn (xg_i_ok (fun _ _ _ => rfl) yg_mul_ok)
  · exact ys_bin hf hn (xg_i_ok (fun _ _ _ => rfl) xg_and_ok)
  · exact ys_bin hf hn (xg_i_ok (op := (· ||| ·)) (fun _ _ _ => rfl) (yg_bit_ok (op := (· ||| ·)) (fun _ _ _ => rfl) (fun _ _ _ h1 h2 h3 h4 h5 => y_or_le h1 h2 h3 h4 h5)))
  · exact ys_bin hf hn (xg_i_ok (op := (· ^^^ ·)) (fun _ _ _ => rfl) (yg_bit_ok (op := (· ^^^ ·)) (fun _ _ _ => rfl) (fun _ _ _ h1 h2 h3 h4 h5 => y_xor_le h1 h2 h3 h4 h5)))
  · exact ys_bin hf hn (xg_i_ok (op := x_ishl) (fun _ _ _ => rfl) (yg_en_ok (op := x_ishl) (fun _ _ _ => rfl)))
  · exact ys_bin hf hn (xg_i_ok (op := x_ishr) (fun _ _ _ => rfl) (xg_ti_ok (op := x_ishr) (fun _ _ _ => rfl)))
  · exact ys_bin hf hn (xg_i_ok (op := x_iushr) (fun _ _ _ => rfl) (xg_ti_ok (op := x_iushr) (fun _ _ _ => rfl)))
  · exact ys_dv hf hn xg_div_ok (fun _ _ _ => Iff.rfl)
  · exact ys_dv hf hn yg_rem_ok (fun _ _ _ => Iff.rfl)
  · exact ys_un hf hn yg_neg_ok
  · exact ys_un hf hn xg_i2l_ok
  · exact ys_un hf hn xg_i2c_ok
  · exact ys_un hf hn xg_l2i_ok
  · exact ys_bin hf hn (xg_l_ok (op := (· + ·)) (fun _ _ _ => rfl))
  · exact ys_bin hf hn (xg_l_ok (op := (· * ·)) (fun _ _ _ => rfl))
  · exact ys_bin hf hn (xg_l_ok (op := (· &&& ·)) (fun _ _ _ => rfl))
  · exact ys_bin hf hn (xg_l_ok (op := (· ||| ·)) (fun _ _ _ => rfl))
  · exact ys_bin hf hn yg_lrem_ok
  · exact ys_bin hf hn (xg_ls_ok (op := x_lshl) (fun _ _ _ => rfl))
  · exact ys_bin hf hn yg_lushr_ok
  · exact ys_lcmp hf hn
  · exact ys_dup hf hn
  · exact ys_pop hf hn
  · exact ys_dup2 hf hn
  · rename_i k
    exact ys_ld hf hn (by decide) (fun ρ x Lc stc h0 h1 => by
      show (match ev_lk Lc k.val with
        | some (.int x) => some (Lc, Value.int x :: stc)
        | _ => none) = _
      rw [h1, x_in0 h0])
  · rename_i k
    exact ys_ld hf hn (by decide) (fun ρ x Lc stc h0 h1 => by
      show (match ev_lk Lc k with
        | some (.int x) => some (Lc, Value.int x :: stc)
        | _ => none) = _
      rw [h1, x_in0 h0])
  · rename_i k
    exact ys_ld hf hn (by decide) (fun ρ x Lc stc h0 h1 => by
      show (match ev_lk Lc k.val with
        | some (.long x) => some (Lc, Value.long x :: stc)
        | _ => none) = _
      rw [h1, x_in1 h0])
  · rename_i k
    exact ys_ld hf hn (by decide) (fun ρ x Lc stc h0 h1 => by
      show (match ev_lk Lc k with
        | some (.long x) => some (Lc, Value.long x :: stc)
        | _ => none) = _
      rw [h1, x_in1 h0])
  · rename_i k
    exact ys_lda hf hn (fun ρ x Lc stc h0 h1 => by
      show (match ev_lk Lc k.val with
        | some (.ref x) => some (Lc, Value.ref x :: stc)
        | some (.retAddr x) => some (Lc, Value.retAddr x :: stc)
        | _ => none) = _
      rcases h0 with h0 | h0
      · rw [h1, x_in2 h0]
      · rw [h1, x_in3 h0])
  · rename_i k
    exact ys_st hf hn (fun ρ x Lc stc h0 h1 => by
      rw [x_in0 h0]
      show (if k.val < mx then some (ev_s1 Lc k.val (.int (Int32.ofInt (x_vl ρ x))), stc) else none) = _
      rw [if_pos h1])
  · rename_i k
    exact ys_st hf hn (fun ρ x Lc stc h0 h1 => by
      rw [x_in0 h0]
      show (if k < mx then some (ev_s1 Lc k (.int (Int32.ofInt (x_vl ρ x))), stc) else none) = _
      rw [if_pos h1])
  · rename_i k
    exact ys_stL hf hn (fun ρ x Lc stc h0 h1 => by
      rw [x_in1 h0]
      show (if k.val + 1 < mx then some (ev_s2 Lc k.val (.long (Int64.ofInt (x_vl ρ x))), stc) else none) = _
      rw [if_pos h1])
  · rename_i k
    exact ys_st hf hn (fun ρ x Lc stc h0 h1 => by
      rw [x_in2 h0]
      show (if k.val < mx then some (ev_s1 Lc k.val (.ref (x_vl ρ x).toNat), stc) else none) = _
      rw [if_pos h1])
  · exact ys_inc hf hn
  · exact ys_gf hf hn
  · split
    · rename_i hc
      exact ys_pf hf hc hn
    · exact ys_nop
  · exact ys_al hf rfl rfl hn
  · exact ys_al hf rfl rfl hn
  · exact ys_al hf rfl rfl hn
  · exact ys_as hf rfl rfl hn
  · exact ys_as hf rfl rfl hn
  · exact ys_as hf rfl rfl hn
  · exact ys_aa hf hn
  · exact ys_len hf hn
  · exact ys_goto hf (hi a)
  · exact ys_if hf (hi a) hn
  · exact ys_ic hf (hi a) hn
  · split
    · rename_i hd
      have hd := of_decide_eq_true hd
      exact ys_sw hf hd.1 hd.2.1 hd.2.2 hi
    · exact ys_nop
  · exact ys_ri hf
  · exact ys_rl hf
  · exact ys_rv hf
  · split
    · rename_i hk
      have hl := ev_k_len hk
      rw [hl] at hn
      split
      · rename_i hm
        split
        · rename_i hfit
          split
          · rename_i m hm9
            exact ys_cl hf hk hm hfit (hinl a m hm9) hn
          · exact ys_cts hf hk hm hfit (hcts a) hn
        · exact ys_nop
      · exact ys_nop
    · rename_i hk
      have hl := ev_k_len hk
      rw [hl] at hn
      exact ys_cp hf hk hn
    · exact ys_nop
end XCO
/-! a method's rows; cuts of the top of the stack -/
abbrev yB : Type := (Nat → yK) → yK
noncomputable def y_cuts (c : Option Int) (K : yK) : yK := match c with
  | some z => yo_cutv z K
  | none => K
theorem ys_cuts {h0 : yQ × ev_H} {scx : yX} {I : ev_I} {pc : Nat} {K : yK} (h : y_S h0 scx I pc K) : ∀ c, y_S h0 scx I pc (y_cuts c K)
  | some z => ys_cutv h
  | none => h
noncomputable def y_cm (g : yQ) (scx : yX) (inl : Nat → Option (List xv → yH → xE → yR)) (cts : Nat → List yCt) (I : ev_I) (cut : Nat → Option Int) (n : Nat) : Nat → yB := Nat.rec (motive := fun _ => Nat → yB) (fun pc ih => ih pc) (fun _ rec pc ih => match ev_f I.2.2.2.2.2.2.2.2.2 pc with
  | none => y_nop
  | some e => y_cuts (cut pc) (y_op g scx inl cts I.1 I.2.1 I.2.2.1 I.2.2.2.2.2.1 I.2.2.2.2.2.2.1 I.2.2.2.2.2.2.2.1 I.2.2.2.2.2.2.2.2.1 pc e.2.1 e.2.2.1 e.2.2.2.1 e.2.2.2.2.2 ih (rec (pc + ev_len e.2.1) ih))) n
theorem ys_cm {h0 : yQ × ev_H} {scx : yX} {inl : Nat → Option (List xv → yH → xE → yR)} {cts : Nat → List yCt} {I : ev_I} {cut : Nat → Option Int} (hinl : ∀ a m, inl a = some m → y_Ma h0 a m) (hcts : ∀ a, ∀ ct ∈ cts a, y_Mca h0.1 a ct) {ih : Nat → yK} (hi : ∀ p, y_S h0 scx I p (ih p)) : ∀ n pc, y_S h0 scx I pc (y_cm h0.1 scx inl cts I cut n pc ih) := by
  intro n
  induction n with
  | zero => exact fun pc => hi pc
  | succ n rec =>
    intro pc
    obtain ⟨rt, ini, mx, na, rc, fr, lo, mc, ms, t⟩ := I
    show y_S h0 scx _ pc (match ev_f t pc with
      | none => y_nop
      | some e => y_cuts (cut pc) (y_op h0.1 scx inl cts rt ini mx fr lo mc ms pc e.2.1 e.2.2.1 e.2.2.2.1 e.2.2.2.2.2 ih (y_cm h0.1 scx inl cts (rt, ini, mx, na, rc, fr, lo, mc, ms, t) cut n (pc + ev_len e.2.1) ih)))
    cases hf : ev_f t pc with
    | none => exact ys_nop
    | some e =>
      obtain ⟨pp0, i, a, b, pp, v⟩ := e
      exact ys_cuts (ys_op hf hinl hcts hi (rec _)) _
