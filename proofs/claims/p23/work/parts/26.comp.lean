/-! a method's rows as rows of the symbols' machine -/
def x_iushr (x y : Int32) : Int32 := (x.toUInt32 >>> (y.toUInt32 &&& Int32.toUInt32 31)).toInt32
def x_ishl (x y : Int32) : Int32 := x <<< (y &&& 31)
def x_ishr (x y : Int32) : Int32 := x >>> (y &&& 31)
def x_lshl (x : Int64) (y : Int32) : Int64 := x <<< (y.toInt64 &&& 63)
def x_lushr (x : Int64) (y : Int32) : Int64 := (x.toUInt64 >>> (y.toInt64.toUInt64 &&& Int64.toUInt64 63)).toInt64
noncomputable def x_op (scx : Option (List xv)) (cal : Nat → xM) (rt ini mx fr lo mc ms pc : Nat) (i : Instr) (a b : Nat) (v : Value) (ih : Nat → xK) (next : xK) : xK := match i with
  | .iconst n => xo_push (0, 0, n) next
  | .bipush n => xo_push (0, 0, (Int8.ofInt n).toInt32.toInt) next
  | .sipush n => xo_push (0, 0, (Int16.ofInt n).toInt32.toInt) next
  | .lconst n => xo_push (1, 0, (Int64.ofNat (n : Nat)).toInt) next
  | .ldc_w _ => match v with
    | .int x => xo_push (0, 0, x.toInt) next
    | _ => x_nop
  | .ldc2_w _ => match v with
    | .long x => xo_push (1, 0, x.toInt) next
    | _ => x_nop
  | .iadd => xo_bin 0 0 xg_add next
  | .isub => xo_bin 0 0 xg_sub next
  | .imul => xo_bin 0 0 (xg_i (· * ·) xg_mul) next
  | .iand => xo_bin 0 0 (xg_i (· &&& ·) xg_and) next
  | .ior => xo_bin 0 0 (xg_i (· ||| ·) xg_ti) next
  | .ixor => xo_bin 0 0 (xg_i (· ^^^ ·) xg_ti) next
  | .ishl => xo_bin 0 0 (xg_i x_ishl xg_ti) next
  | .ishr => xo_bin 0 0 (xg_i x_ishr xg_ti) next
  | .iushr => xo_bin 0 0 (xg_i x_iushr xg_ti) next
  | .idiv => xo_bin 0 0 xg_div next
  | .irem => xo_bin 0 0 xg_rem next
  | .ineg => xo_un 0 xg_neg next
  | .i2l => xo_un 0 xg_i2l next
  | .i2c => xo_un 0 xg_i2c next
  | .l2i => xo_un 1 xg_l2i next
  | .ladd => xo_bin 1 1 (xg_l (· + ·)) next
  | .lmul => xo_bin 1 1 (xg_l (· * ·)) next
  | .land => xo_bin 1 1 (xg_l (· &&& ·)) next
  | .lor => xo_bin 1 1 (xg_l (· ||| ·)) next
  | .lrem => xo_bin 1 1 xg_lrem next
  | .lshl => xo_bin 1 0 (xg_ls x_lshl) next
  | .lushr => xo_bin 1 0 (xg_ls x_lushr) next
  | .lcmp => xo_lcmp next
  | .dup => xo_dup next
  | .pop => xo_pop next
  | .dup2 => xo_dup2 next
  | .iload_n k => xo_ld 0 k.val next
  | .iload k => xo_ld 0 k next
  | .lload_n k => xo_ld 1 k.val next
  | .lload k => xo_ld 1 k next
  | .aload_n k => xo_lda k.val next
  | .istore_n k => xo_st 0 k.val mx next
  | .istore k => xo_st 0 k mx next
  | .lstore_n k => xo_stL k.val mx next
  | .astore_n k => xo_st 2 k.val mx next
  | .iinc k d => xo_inc k mx d next
  | .getfield _ => xo_gf a b next
  | .putfield _ => match x_pc a b ini with
    | some c => xo_pf a b c next
    | none => x_nop
  | .iaload => xo_al scx 0 next
  | .caload => xo_al scx 1 next
  | .baload => xo_al scx 2 next
  | .iastore => xo_as 0 next
  | .castore => xo_as 1 next
  | .bastore => xo_as 2 next
  | .aaload => xo_aa next
  | .arraylength => xo_len scx next
  | .goto _ => ih a
  | .ifCond c _ => xo_if c (ih a) next
  | .if_icmp c _ => xo_ic c (ih a) next
  | .tableswitch d lo9 hi9 offs => match decide ((pc : Int) + d = ((((pc : Int) + d).toNat : Nat) : Int) ∧ offs.toList.map (fun o => (pc : Int) + o) = (offs.toList.map (fun o => ((pc : Int) + o).toNat)).map (fun (k : Nat) => (k : Int)) ∧ hi9 < lo9 + (offs.toList.map (fun o => ((pc : Int) + o).toNat)).length) with
    | true => xo_sw lo9 hi9 ((pc : Int) + d).toNat (offs.toList.map (fun o => ((pc : Int) + o).toNat)) ih
    | false => x_nop
  | .ireturn => xo_ri rt
  | .lreturn => xo_rl rt
  | .return_ => xo_rv rt
  | .new _ => match x_df a with
    | some p => xo_new a p.1 p.2 mc ms next
    | none => x_nop
  | .newarray t => match t with
    | .int => xo_na 0 mc ms next
    | .char => xo_na 1 mc ms next
    | .boolean => xo_na 2 mc ms next
    | _ => x_nop
  | .multianewarray _ d => match d with
    | 2 => xo_mna mc ms next
    | _ => x_nop
  | _ => match ev_k i b with
    | some 0 => match ev_ms a with
      | some ((rt', ini', mx', na', rc', fr', lo', mc', ms', t'), _) => match ev_fit i (rt', ini', mx', na', rc', fr', lo', mc', ms', t') && (Nat.ble (fr' + 1) fr && Nat.ble (8 + (mx' + 11) + lo') lo) with
        | true => xo_cl (cal a) rc' na' mx' mc' ms' mc ms next
        | false => x_nop
      | none => x_nop
    | some 1 => xo_oi fr lo next
    | some 2 => xo_cp fr lo next
    | _ => x_nop
section XCO
variable {scx : Option (List xv)} {rt ini mx na rc fr lo mc ms : Nat} {t : ev_T} {pc pp0 a b pp : Nat} {i : Instr} {v : Value} {next : xK}
set_option maxHeartbeats 8000000 in
theorem xs_op {cal : Nat → xM} {ih : Nat → xK} (hf : ev_f t pc = some (pp0, i, a, b, pp, v)) (hcal : ∀ a, x_Ma a (cal a)) (hi : ∀ p, x_S scx (rt, ini, mx, na, rc, fr, lo, mc, ms, t) p (ih p)) (hn : x_S scx (rt, ini, mx, na, rc, fr, lo, mc, ms, t) (pc + ev_len i) next) : x_S scx (rt, ini, mx, na, rc, fr, lo, mc, ms, t) pc (x_op scx cal rt ini mx fr lo mc ms pc i a b v ih next) := by
  unfold x_op
  split
  · exact xs_push hf hn rfl (fun _ _ => rfl)
  · exact xs_push hf hn rfl (fun _ _ => by rw [x_in0 rfl]; show _ = some (Value.int (Int32.ofInt (Int32.toInt _)) :: _); rw [Int32.ofInt_toInt]; rfl)
  · exact xs_push hf hn rfl (fun _ _ => by rw [x_in0 rfl]; show _ = some (Value.int (Int32.ofInt (Int32.toInt _)) :: _); rw [Int32.ofInt_toInt]; rfl)
  · exact xs_push hf hn rfl (fun _ _ => by rw [x_in1 rfl]; show _ = some (Value.long (Int64.ofInt (Int64.toInt _)) :: _); rw [Int64.ofInt_toInt]; rfl)
  · split
    · exact xs_push hf hn rfl (fun _ _ => by rw [x_in0 rfl]; show _ = some (Value.int (Int32.ofInt (Int32.toInt _)) :: _); rw [Int32.ofInt_toInt]; rfl)
    · exact xs_nop
  · split
    · exact xs_push hf hn rfl (fun _ _ => by rw [x_in1 rfl]; show _ = some (Value.long (Int64.ofInt (Int64.toInt _)) :: _); rw [Int64.ofInt_toInt]; rfl)
    · exact xs_nop
  · exact xs_bin hf hn xg_add_ok
  · exact xs_bin hf hn xg_sub_ok
  · exact xs_bin hf hn (xg_i_ok (fun _ _ _ => rfl) xg_mul_ok)
  · exact xs_bin hf hn (xg_i_ok (fun _ _ _ => rfl) xg_and_ok)
  · exact xs_bin hf hn (xg_i_ok (op := (· ||| ·)) (fun _ _ _ => rfl) (xg_ti_ok (op := (· ||| ·)) (fun _ _ _ => rfl)))
  · exact xs_bin hf hn (xg_i_ok (op := (· ^^^ ·)) (fun _ _ _ => rfl) (xg_ti_ok (op := (· ^^^ ·)) (fun _ _ _ => rfl)))
  · exact xs_bin hf hn (xg_i_ok (op := x_ishl) (fun _ _ _ => rfl) (xg_ti_ok (op := x_ishl) (fun _ _ _ => rfl)))
  · exact xs_bin hf hn (xg_i_ok (op := x_ishr) (fun _ _ _ => rfl) (xg_ti_ok (op := x_ishr) (fun _ _ _ => rfl)))
  · exact xs_bin hf hn (xg_i_ok (op := x_iushr) (fun _ _ _ => rfl) (xg_ti_ok (op := x_iushr) (fun _ _ _ => rfl)))
  · exact xs_bin hf hn xg_div_ok
  · exact xs_bin hf hn xg_rem_ok
  · exact xs_un hf hn xg_neg_ok
  · exact xs_un hf hn xg_i2l_ok
  · exact xs_un hf hn xg_i2c_ok
  · exact xs_un hf hn xg_l2i_ok
  · exact xs_bin hf hn (xg_l_ok (op := (· + ·)) (fun _ _ _ => rfl))
  · exact xs_bin hf hn (xg_l_ok (op := (· * ·)) (fun _ _ _ => rfl))
  · exact xs_bin hf hn (xg_l_ok (op := (· &&& ·)) (fun _ _ _ => rfl))
  · exact xs_bin hf hn (xg_l_ok (op := (· ||| ·)) (fun _ _ _ => rfl))
  · exact xs_bin hf hn xg_lrem_ok
  · exact xs_bin hf hn (xg_ls_ok (op := x_lshl) (fun _ _ _ => rfl))
  · exact xs_bin hf hn (xg_ls_ok (op := x_lushr) (fun _ _ _ => rfl))
  · exact xs_lcmp hf hn
  · exact xs_dup hf hn
  · exact xs_pop hf hn
  · exact xs_dup2 hf hn
  · rename_i k
    exact xs_ld hf hn (by decide) (fun ρ x Lc stc h0 h1 => by
      show (match ev_lk Lc k.val with
        | some (.int x) => some (Lc, Value.int x :: stc)
        | _ => none) = _
      rw [h1, x_in0 h0])
  · rename_i k
    exact xs_ld hf hn (by decide) (fun ρ x Lc stc h0 h1 => by
      show (match ev_lk Lc k with
        | some (.int x) => some (Lc, Value.int x :: stc)
        | _ => none) = _
      rw [h1, x_in0 h0])
  · rename_i k
    exact xs_ld hf hn (by decide) (fun ρ x Lc stc h0 h1 => by
      show (match ev_lk Lc k.val with
        | some (.long x) => some (Lc, Value.long x :: stc)
        | _ => none) = _
      rw [h1, x_in1 h0])
  · rename_i k
    exact xs_ld hf hn (by decide) (fun ρ x Lc stc h0 h1 => by
      show (match ev_lk Lc k with
        | some (.long x) => some (Lc, Value.long x :: stc)
        | _ => none) = _
      rw [h1, x_in1 h0])
  · rename_i k
    exact xs_lda hf hn (fun ρ x Lc stc h0 h1 => by
      show (match ev_lk Lc k.val with
        | some (.ref x) => some (Lc, Value.ref x :: stc)
        | some (.retAddr x) => some (Lc, Value.retAddr x :: stc)
        | _ => none) = _
      rcases h0 with h0 | h0
      · rw [h1, x_in2 h0]
      · rw [h1, x_in3 h0])
  · rename_i k
    exact xs_st hf hn (fun ρ x Lc stc h0 h1 => by
      rw [x_in0 h0]
      show (if k.val < mx then some (ev_s1 Lc k.val (.int (Int32.ofInt (x_vl ρ x))), stc) else none) = _
      rw [if_pos h1])
  · rename_i k
    exact xs_st hf hn (fun ρ x Lc stc h0 h1 => by
      rw [x_in0 h0]
      show (if k < mx then some (ev_s1 Lc k (.int (Int32.ofInt (x_vl ρ x))), stc) else none) = _
      rw [if_pos h1])
  · rename_i k
    exact xs_stL hf hn (fun ρ x Lc stc h0 h1 => by
      rw [x_in1 h0]
      show (if k.val + 1 < mx then some (ev_s2 Lc k.val (.long (Int64.ofInt (x_vl ρ x))), stc) else none) = _
      rw [if_pos h1])
  · rename_i k
    exact xs_st hf hn (fun ρ x Lc stc h0 h1 => by
      rw [x_in2 h0]
      show (if k.val < mx then some (ev_s1 Lc k.val (.ref (x_vl ρ x).toNat), stc) else none) = _
      rw [if_pos h1])
  · exact xs_inc hf hn
  · exact xs_gf hf hn
  · split
    · rename_i hc
      exact xs_pf hf hc hn
    · exact xs_nop
  · exact xs_al hf rfl rfl hn
  · exact xs_al hf rfl rfl hn
  · exact xs_al hf rfl rfl hn
  · exact xs_as hf rfl rfl hn
  · exact xs_as hf rfl rfl hn
  · exact xs_as hf rfl rfl hn
  · exact xs_aa hf hn
  · exact xs_len hf hn
  · exact xs_goto hf (hi a)
  · exact xs_if hf (hi a) hn
  · exact xs_ic hf (hi a) hn
  · split
    · rename_i hd
      have hd := of_decide_eq_true hd
      exact xs_sw hf hd.1 hd.2.1 hd.2.2 hi
    · exact xs_nop
  · exact xs_ri hf
  · exact xs_rl hf
  · exact xs_rv hf
  · split
    · rename_i p hp
      exact xs_new hf hp hn
    · exact xs_nop
  · split
    · exact xs_na hf rfl hn
    · exact xs_na hf rfl hn
    · exact xs_na hf rfl hn
    · exact xs_nop
  · split
    · exact xs_mna hf hn
    · exact xs_nop
  · split
    · rename_i hk
      have hl := ev_k_len hk
      rw [hl] at hn
      split
      · rename_i hm
        split
        · rename_i hfit
          exact xs_cl hf hk hm hfit (hcal a) hn
        · exact xs_nop
      · exact xs_nop
    · rename_i hk
      have hl := ev_k_len hk
      rw [hl] at hn
      exact xs_oi hf hk hn
    · rename_i hk
      have hl := ev_k_len hk
      rw [hl] at hn
      exact xs_cp hf hk hn
    · exact xs_nop
end XCO
/-- cuts ahead of a row -/
noncomputable def x_cuts (cs : List (Nat × Int)) (K : xK) : xK := List.rec (motive := fun _ => xK) K (fun c _ ih => xo_cut c.1 c.2 ih) cs
theorem xs_cuts {scx : Option (List xv)} {I : ev_I} {pc : Nat} {K : xK} (h : x_S scx I pc K) : ∀ cs, x_S scx I pc (x_cuts cs K) := by
  intro cs
  induction cs with
  | nil => exact h
  | cons c cs ih => exact xs_cut ih
abbrev xB : Type := (Nat → xK) → xK
noncomputable def x_cm (scx : Option (List xv)) (cal : Nat → xM) (I : ev_I) (hint : Nat → List (Nat × Int)) (n : Nat) : Nat → xB := Nat.rec (motive := fun _ => Nat → xB) (fun pc ih => ih pc) (fun _ rec pc ih => match ev_f I.2.2.2.2.2.2.2.2.2 pc with
  | none => x_nop
  | some e => x_cuts (hint pc) (x_op scx cal I.1 I.2.1 I.2.2.1 I.2.2.2.2.2.1 I.2.2.2.2.2.2.1 I.2.2.2.2.2.2.2.1 I.2.2.2.2.2.2.2.2.1 pc e.2.1 e.2.2.1 e.2.2.2.1 e.2.2.2.2.2 ih (rec (pc + ev_len e.2.1) ih))) n
theorem xs_cm {scx : Option (List xv)} {cal : Nat → xM} {I : ev_I} {hint : Nat → List (Nat × Int)} (hcal : ∀ a, x_Ma a (cal a)) {ih : Nat → xK} (hi : ∀ p, x_S scx I p (ih p)) : ∀ n pc, x_S scx I pc (x_cm scx cal I hint n pc ih) := by
  intro n
  induction n with
  | zero => exact fun pc => hi pc
  | succ n rec =>
    intro pc
    obtain ⟨rt, ini, mx, na, rc, fr, lo, mc, ms, t⟩ := I
    show x_S scx _ pc (match ev_f t pc with
      | none => x_nop
      | some e => x_cuts (hint pc) (x_op scx cal rt ini mx fr lo mc ms pc e.2.1 e.2.2.1 e.2.2.2.1 e.2.2.2.2.2 ih (x_cm scx cal (rt, ini, mx, na, rc, fr, lo, mc, ms, t) hint n (pc + ev_len e.2.1) ih)))
    cases hf : ev_f t pc with
    | none => exact xs_nop
    | some e =>
      obtain ⟨pp0, i, a, b, pp, v⟩ := e
      exact xs_cuts (xs_op hf hcal hi (rec _)) _
/-! blocks, runs -/
noncomputable def x_lb (tb : List (Nat × xB)) (pc : Nat) : xB := List.rec (motive := fun _ => xB) (fun _ => x_nop) (fun p _ ih => match Nat.beq p.1 pc with
  | true => p.2
  | false => ih) tb
def x_stop (pc : Nat) : xK := fun L st h env kc ks => some [(pc + 1, L, st, h, env, kc, ks)]
theorem xs_stop {scx : Option (List xv)} {I : ev_I} {pc : Nat} : x_S scx I pc (x_stop pc) := by
  intro L st h env kc ks outs hk ρ sc Lc stc hc hX hG Q hQ
  cases hk
  exact hQ _ (List.mem_singleton.mpr rfl) ρ Lc stc hc x_ext.rf (Nat.le_refl _) hG
noncomputable def x_run (stops : Nat → Bool) (tb : List (Nat × xB)) (n : Nat) : Nat → xK := Nat.rec (motive := fun _ => Nat → xK) (fun _ => x_nop) (fun _ ih pc => match stops pc with
  | true => x_stop pc
  | false => x_lb tb pc ih) n
/-- every block is its method's rows -/
def x_T (scx : Option (List xv)) (cal : Nat → xM) (I : ev_I) (hint : Nat → List (Nat × Int)) (tb : List (Nat × xB)) : Prop := ∀ p ∈ tb, ∃ n, p.2 = x_cm scx cal I hint n p.1
theorem xs_lb {scx : Option (List xv)} {cal : Nat → xM} {I : ev_I} {hint : Nat → List (Nat × Int)} (hcal : ∀ a, x_Ma a (cal a)) {ih : Nat → xK} (hi : ∀ p, x_S scx I p (ih p)) {tb : List (Nat × xB)} (htb : x_T scx cal I hint tb) (pc : Nat) : x_S scx I pc (x_lb tb pc ih) := by
  induction tb with
  | nil => exact xs_nop
  | cons p tb rec =>
    show x_S scx I pc ((match Nat.beq p.1 pc with
      | true => p.2
      | false => x_lb tb pc) ih)
    cases hb : Nat.beq p.1 pc with
    | true =>
      obtain ⟨n, hn⟩ := htb p (by simp)
      have := Nat.eq_of_beq_eq_true hb
      subst this
      show x_S scx I p.1 (p.2 ih)
      rw [hn]
      exact xs_cm hcal hi n p.1
    | false => exact rec (fun q hq => htb q (by simp [hq]))
theorem xs_run {scx : Option (List xv)} {cal : Nat → xM} {I : ev_I} {hint : Nat → List (Nat × Int)} (hcal : ∀ a, x_Ma a (cal a)) {tb : List (Nat × xB)} (htb : x_T scx cal I hint tb) {stops : Nat → Bool} : ∀ n pc, x_S scx I pc (x_run stops tb n pc) := by
  intro n
  induction n with
  | zero => exact fun pc => xs_nop
  | succ n rec =>
    intro pc
    show x_S scx I pc (match stops pc with
      | true => x_stop pc
      | false => x_lb tb pc (x_run stops tb n))
    cases stops pc with
    | true => exact xs_stop
    | false => exact xs_lb hcal rec htb pc
/-! methods -/
noncomputable def x_la (as : List xv) (tail : List xv) : List xv := List.rec (motive := fun _ => List xv) tail (fun v _ ih => match Nat.beq v.1 1 with
  | true => v :: (9, 0, 0) :: ih
  | false => v :: ih) as
theorem x_la_ok {ρ : Nat → Int} {n : Nat} {tail : List xv} (ht : ∀ v ∈ tail, ¬ v.1 < 4) : ∀ {as : List xv}, (∀ v ∈ as, x_ok n v) → ∀ (i j : Nat) (v : xv), (x_la as tail)[j]? = some v → v.1 < 4 → x_ok n v ∧ ev_lk (lv_args i (as.map (x_in ρ))) (i + j) = some (x_in ρ v) := by
  intro as
  induction as with
  | nil =>
    intro _ i j v hj h4
    exact absurd h4 (ht v (List.mem_of_getElem? hj))
  | cons w as ih =>
    intro ho i j v hj h4
    have hj : (match Nat.beq w.1 1 with
      | true => w :: (9, 0, 0) :: x_la as tail
      | false => w :: x_la as tail)[j]? = some v := hj
    have e : lv_args i ((w :: as).map (x_in ρ)) = (i, x_in ρ w) :: lv_args (if (x_in ρ w).category = 2 then i + 2 else i + 1) (as.map (x_in ρ)) := rfl
    rw [e]
    cases hb : Nat.beq w.1 1 with
    | true =>
      rw [hb] at hj
      have hw := Nat.eq_of_beq_eq_true hb
      have hcat : (x_in ρ w).category = 2 := by rw [x_in1 hw]; rfl
      rw [if_pos hcat]
      match j, hj with
      | 0, hj =>
        cases hj
        exact ⟨ho w (by simp), x_lk_h⟩
      | 1, hj =>
        cases hj
        exact absurd h4 (by decide)
      | j + 2, hj =>
        have hj : (x_la as tail)[j]? = some v := hj
        obtain ⟨g1, g2⟩ := ih (fun z hz => ho z (by simp [hz])) (i + 2) j v hj h4
        exact ⟨g1, by rw [x_lk_c (by omega), show i + (j + 2) = i + 2 + j by omega]; exact g2⟩
    | false =>
      rw [hb] at hj
      have hcat : ¬ (x_in ρ w).category = 2 := by rw [x_cat (fun z => by rw [z] at hb; cases hb)]; decide
      rw [if_neg hcat]
      match j, hj with
      | 0, hj =>
        cases hj
        exact ⟨ho w (by simp), x_lk_h⟩
      | j + 1, hj =>
        have hj : (x_la as tail)[j]? = some v := hj
        obtain ⟨g1, g2⟩ := ih (fun z hz => ho z (by simp [hz])) (i + 1) j v hj h4
        exact ⟨g1, by rw [x_lk_c (by omega), show i + (j + 1) = i + 1 + j by omega]; exact g2⟩
noncomputable def x_al0 (os : List xo) : Bool := List.rec (motive := fun _ => Bool) true (fun o _ ih => match Nat.beq o.1 0 with
  | true => ih
  | false => false) os
theorem x_al0_ok : ∀ {os : List xo}, x_al0 os = true → ∀ o ∈ os, o.1 = 0 := by
  intro os
  induction os with
  | nil => intro _ o ho; cases ho
  | cons o0 os ih =>
    intro h o ho
    have h : (match Nat.beq o0.1 0 with
      | true => x_al0 os
      | false => false) = true := h
    cases hb : Nat.beq o0.1 0 with
    | false => rw [hb] at h; cases h
    | true =>
      rw [hb] at h
      rcases List.mem_cons.mp ho with rfl | ho
      · exact Nat.eq_of_beq_eq_true hb
      · exact ih h o ho
noncomputable def x_mth (k : Nat) (tb : List (Nat × xB)) (n : Nat) : xM := fun as h env => match x_lb tb 0 (x_run (fun _ => false) tb n) (x_la as (List.replicate k (9, 0, 0))) [] h env 0 0 with
  | none => none
  | some outs => match x_al0 outs with
    | true => some outs
    | false => none
theorem xs_mth {cal : Nat → xM} {I : ev_I} {hint : Nat → List (Nat × Int)} (hcal : ∀ a, x_Ma a (cal a)) {tb : List (Nat × xB)} (htb : x_T none cal I hint tb) {k n : Nat} : x_Mt I (x_mth k tb n) := by
  intro as h env outs hm ρ hc hsat oa hh Q hQ
  unfold x_mth at hm
  split at hm
  · cases hm
  · rename_i outs' ho
    split at hm
    · rename_i hz
      cases hm
      refine xs_lb hcal (xs_run hcal htb n) htb 0 _ [] h env 0 0 outs ho ρ none (lv_args 0 (as.map (x_in ρ))) [] hc ⟨rfl, fun x hx => by cases hx⟩ ⟨hsat, fun j v hj h4 => ?_, ⟨rfl, fun v hv => by cases hv⟩, hh⟩ Q (fun o hom ρ' Lc stc hc' e1 e2 hG => ?_)
      · have := x_la_ok (ρ := ρ) (n := env.length) (tail := List.replicate k (9, 0, 0)) (fun v hv => by rw [List.eq_of_mem_replicate hv]; decide) oa 0 j v hj h4
        rw [Nat.zero_add] at this
        exact this
      · rw [x_al0_ok hz o hom]
        dsimp only
        have := hQ o hom ρ' hc' e1 e2 hG.1 hG.2.2.1.2 hG.2.2.2
        rw [hG.2.2.1.1]
        exact this
    · cases hm
/-! tables of callees -/
def x_no : xM := fun _ _ _ => none
theorem x_Ma_no (a : Nat) : x_Ma a x_no := fun _ _ _ _ _ _ h => by cases h
noncomputable def x_ca (k : Nat) (m : xM) (rest : Nat → xM) : Nat → xM := fun a => match Nat.beq a k with
  | true => m
  | false => rest a
theorem x_Ma_ca {k : Nat} {m : xM} {rest : Nat → xM} (h : x_Ma k m) (hr : ∀ a, x_Ma a (rest a)) : ∀ a, x_Ma a (x_ca k m rest a) := by
  intro a
  unfold x_ca
  cases hb : Nat.beq a k with
  | true => have := Nat.eq_of_beq_eq_true hb; subst this; exact h
  | false => exact hr a
theorem x_Ma_of {a : Nat} {r : ev_R} {m : xM} (hr : ev_ms a = some r) (h : x_Mt r.1 m) : x_Ma a m := fun r' hr' => by
  rw [hr] at hr'
  cases hr'
  exact h
theorem x_T_nil {scx : Option (List xv)} {cal : Nat → xM} {I : ev_I} {hint : Nat → List (Nat × Int)} : x_T scx cal I hint [] := fun _ h => by cases h
theorem x_T_cons {scx : Option (List xv)} {cal : Nat → xM} {I : ev_I} {hint : Nat → List (Nat × Int)} {pc : Nat} {bl : xB} {tb : List (Nat × xB)} (n : Nat) (h : bl = x_cm scx cal I hint n pc) (hr : x_T scx cal I hint tb) : x_T scx cal I hint ((pc, bl) :: tb) := fun p hp => by
  rcases List.mem_cons.mp hp with rfl | hp
  · exact ⟨n, h⟩
  · exact hr p hp
