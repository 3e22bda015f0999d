/-! rows for longs; NameHallModel.in, isPerson, isName by hand -/
abbrev fl (z : Int) : Value := .long (Int64.ofInt z)
def f_cmp (x y : Int) : Int := if y < x then 1 else if x = y then 0 else -1
theorem f_cmp_lt {x y : Int} : f_cmp x y < 0 ↔ x < y := by unfold f_cmp; split <;> (try split) <;> omega
theorem f_cmp_gt {x y : Int} : 0 < f_cmp x y ↔ y < x := by unfold f_cmp; split <;> (try split) <;> omega
theorem f_cmp_r {x y : Int} : -2147483648 ≤ f_cmp x y ∧ f_cmp x y ≤ 2147483647 := by unfold f_cmp; split <;> (try split) <;> omega
section FRL
variable {sc : Option (List Int32)} {rt ini mx na rc fr lo mc ms : Nat} {t : ev_T} {pc : Nat} {Lc : ev_L} {stc : List Value} {hc : ev_H} {kc ks : Nat} {Q : Option Value → ev_H → Prop}
variable {pp0 a b pp : Nat} {i : Instr} {v : Value} {l : List (Nat × Value)}
theorem f_bipush {n : Int} (hf : ev_f t pc = some (pp0, .bipush n, a, b, pp, v)) (hn : (Int8.ofInt n).toInt32 = Int32.ofInt n) (h : x_W sc (rt, ini, mx, na, rc, fr, lo, mc, ms, t) (pc + 2) Lc (fi n :: stc) hc kc ks Q) : x_W sc (rt, ini, mx, na, rc, fr, lo, mc, ms, t) pc Lc stc hc kc ks Q := x_W_s hf (st' := fi n :: stc) (by show some (Value.int (Int8.ofInt n).toInt32 :: stc) = _; rw [hn]) h
theorem f_sipush {n : Int} (hf : ev_f t pc = some (pp0, .sipush n, a, b, pp, v)) (hn : (Int16.ofInt n).toInt32 = Int32.ofInt n) (h : x_W sc (rt, ini, mx, na, rc, fr, lo, mc, ms, t) (pc + 3) Lc (fi n :: stc) hc kc ks Q) : x_W sc (rt, ini, mx, na, rc, fr, lo, mc, ms, t) pc Lc stc hc kc ks Q := x_W_s hf (st' := fi n :: stc) (by show some (Value.int (Int16.ofInt n).toInt32 :: stc) = _; rw [hn]) h
theorem f_ldc2 (z : Int) {k : Nat} {x : Int64} (hf : ev_f t pc = some (pp0, .ldc2_w k, a, b, pp, .long x)) (hz : x = Int64.ofInt z) (h : x_W sc (rt, ini, mx, na, rc, fr, lo, mc, ms, t) (pc + 3) Lc (fl z :: stc) hc kc ks Q) : x_W sc (rt, ini, mx, na, rc, fr, lo, mc, ms, t) pc Lc stc hc kc ks Q := x_W_s hf (st' := fl z :: stc) (by show some (Value.long x :: stc) = _; rw [hz]) h
theorem f_i2l {x : Int} (hf : ev_f t pc = some (pp0, .i2l, a, b, pp, v)) (hx : -2147483648 ≤ x ∧ x ≤ 2147483647) (h : x_W sc (rt, ini, mx, na, rc, fr, lo, mc, ms, t) (pc + 1) Lc (fl x :: stc) hc kc ks Q) : x_W sc (rt, ini, mx, na, rc, fr, lo, mc, ms, t) pc Lc (fi x :: stc) hc kc ks Q := x_W_s hf (st' := fl x :: stc) (by
  show some (Value.long (Int32.ofInt x).toInt64 :: stc) = _
  rw [Int32.toInt64_ofInt (by show (-2147483648 : Int) ≤ _; omega) (by show _ ≤ (2147483647 : Int); omega)]) h
theorem f_lln {k : Fin 4} {x : Int64} (j : Nat) (hf : ev_f t pc = some (pp0, .lload_n k, a, b, pp, v)) (hL : f_L Lc l) (hj : l[j]? = some (k.val, .long x)) (h : x_W sc (rt, ini, mx, na, rc, fr, lo, mc, ms, t) (pc + 1) Lc (.long x :: stc) hc kc ks Q) : x_W sc (rt, ini, mx, na, rc, fr, lo, mc, ms, t) pc Lc stc hc kc ks Q :=
  x_W_l hf (st' := .long x :: stc) (L' := Lc) (by unfold ev_l; dsimp only; rw [hL.at j hj]) h
theorem f_ll {k : Nat} {x : Int64} (j : Nat) (hf : ev_f t pc = some (pp0, .lload k, a, b, pp, v)) (hL : f_L Lc l) (hj : l[j]? = some (k, .long x)) (h : x_W sc (rt, ini, mx, na, rc, fr, lo, mc, ms, t) (pc + 2) Lc (.long x :: stc) hc kc ks Q) : x_W sc (rt, ini, mx, na, rc, fr, lo, mc, ms, t) pc Lc stc hc kc ks Q :=
  x_W_l hf (st' := .long x :: stc) (L' := Lc) (by unfold ev_l; dsimp only; rw [hL.at j hj]) h
theorem f_lcmp {x y : Int} (hf : ev_f t pc = some (pp0, .lcmp, a, b, pp, v)) (hx : -9223372036854775808 ≤ x ∧ x ≤ 9223372036854775807) (hy : -9223372036854775808 ≤ y ∧ y ≤ 9223372036854775807) (h : x_W sc (rt, ini, mx, na, rc, fr, lo, mc, ms, t) (pc + 1) Lc (fi (f_cmp x y) :: stc) hc kc ks Q) : x_W sc (rt, ini, mx, na, rc, fr, lo, mc, ms, t) pc Lc (fl y :: fl x :: stc) hc kc ks Q := x_W_s hf (st' := fi (f_cmp x y) :: stc) (by
  refine x_lc ?_ _
  have ex := x_i64 hx.1 hx.2
  have ey := x_i64 hy.1 hy.2
  unfold lg_cmp f_cmp
  by_cases h1 : y < x
  · rw [if_pos h1, if_pos (show Int64.ofInt y < Int64.ofInt x from Int64.lt_iff_toInt_lt.mpr (by omega))]
    rfl
  · rw [if_neg h1, if_neg (fun z => by have z := Int64.lt_iff_toInt_lt.mp z; omega)]
    by_cases h2 : x = y
    · rw [if_pos h2, if_pos (by rw [h2])]
      rfl
    · rw [if_neg h2, if_neg (fun z => by have z := congrArg Int64.toInt z; omega)]
      rfl) h
theorem f_ret2 {x : Int} (hf : ev_f t pc = some (pp0, .ireturn, a, b, pp, v)) (hx : x = 0 ∨ x = 1) (h : Q (some (fi x)) hc) : x_W sc (2, ini, mx, na, rc, fr, lo, mc, ms, t) pc Lc [fi x] hc kc ks Q := x_W_r hf (r := some (fi x)) (by
  show (if Int32.ofInt x = 0 ∨ Int32.ofInt x = 1 then some (some (fi x)) else none) = _
  rw [if_pos]
  rcases hx with rfl | rfl
  · exact Or.inl rfl
  · exact Or.inr rfl) h
theorem f_k1 {rt' ini' mx' na' rc' fr' lo' mc' ms' : Nat} {t' : ev_T} {q9 : MethodName × ByteArray × Option FieldType × Nat × Nat × Nat × Nat} {as r : List Value} {w : Value} {hc' : ev_H} (hM : f_M a as hc (some w) hc') (hf : ev_f t pc = some (pp0, i, a, b, pp, v)) (hk : ev_k i b = some 0) (hm : ev_ms a = some ((rt', ini', mx', na', rc', fr', lo', mc', ms', t'), q9)) (har : ev_ar rc' na' stc hc = some (as, r))
    (hcd : (ev_fit i (rt', ini', mx', na', rc', fr', lo', mc', ms', t') && (Nat.ble (fr' + 1) fr && (Nat.ble (8 + (mx' + 11) + lo') lo && (Nat.ble (ev_sum r) 8 && (Nat.ble (ev_sum as) mx' && (Nat.ble (kc + mc') mc && Nat.ble (ks + ms') ms)))))) = true)
    (h : x_W sc (rt, ini, mx, na, rc, fr, lo, mc, ms, t) (pc + 3) Lc (w :: r) hc' (kc + mc') (ks + ms') Q) : x_W sc (rt, ini, mx, na, rc, fr, lo, mc, ms, t) pc Lc stc hc kc ks Q := f_k hM hf hk hm har hcd h
theorem f_k0 {rt' ini' mx' na' rc' fr' lo' mc' ms' : Nat} {t' : ev_T} {q9 : MethodName × ByteArray × Option FieldType × Nat × Nat × Nat × Nat} {as r : List Value} {hc' : ev_H} (hM : f_M a as hc none hc') (hf : ev_f t pc = some (pp0, i, a, b, pp, v)) (hk : ev_k i b = some 0) (hm : ev_ms a = some ((rt', ini', mx', na', rc', fr', lo', mc', ms', t'), q9)) (har : ev_ar rc' na' stc hc = some (as, r))
    (hcd : (ev_fit i (rt', ini', mx', na', rc', fr', lo', mc', ms', t') && (Nat.ble (fr' + 1) fr && (Nat.ble (8 + (mx' + 11) + lo') lo && (Nat.ble (ev_sum r) 8 && (Nat.ble (ev_sum as) mx' && (Nat.ble (kc + mc') mc && Nat.ble (ks + ms') ms)))))) = true)
    (h : x_W sc (rt, ini, mx, na, rc, fr, lo, mc, ms, t) (pc + 3) Lc r hc' (kc + mc') (ks + ms') Q) : x_W sc (rt, ini, mx, na, rc, fr, lo, mc, ms, t) pc Lc stc hc kc ks Q := f_k hM hf hk hm har hcd h
end FRL
theorem f15 (hc : ev_H) (x y z : Int) (hx : -9223372036854775808 ≤ x ∧ x ≤ 9223372036854775807) (hy : -9223372036854775808 ≤ y ∧ y ≤ 9223372036854775807) (hz : -9223372036854775808 ≤ z ∧ z ≤ 9223372036854775807) : f_M 15 [fl x, fl y, fl z] hc (some (fi (if y ≤ x ∧ x ≤ z then 1 else 0))) hc := f_M_of (R := ev_r15) rfl (by
  have hL : f_L (lv_args 0 [fl x, fl y, fl z]) [(0, fl x), (2, fl y), (4, fl z)] := f_L_of rfl
  generalize lv_args 0 [fl x, fl y, fl z] = L at hL
  show x_W none (2, 0, 6, 3, 0, 0, 0, 0, 0, ev_t15) 0 L [] hc 0 0 _
  refine f_lln 0 rfl hL rfl ?_
  refine f_lln 1 rfl hL rfl ?_
  refine f_lcmp rfl (by omega) (by omega) ?_
  refine f_if rfl f_cmp_r (fun h1 => ?_) (fun h1 => ?_)
  · have h1 : (f_cmp (x) (y)) < (0) := h1
    refine f_s [fi (0)] rfl rfl ?_
    rw [if_neg (show ¬ (y ≤ x ∧ x ≤ z) by have := @f_cmp_lt x y; have := @f_cmp_gt x z; omega)]
    exact f_ret2 rfl (Or.inl rfl) ⟨rfl, rfl⟩
  · have h1 : ¬ ((f_cmp (x) (y)) < (0)) := h1
    refine f_lln 0 rfl hL rfl ?_
    refine f_ll 2 rfl hL rfl ?_
    refine f_lcmp rfl (by omega) (by omega) ?_
    refine f_if rfl f_cmp_r (fun h2 => ?_) (fun h2 => ?_)
    · have h2 : (0) < (f_cmp (x) (z)) := h2
      refine f_s [fi (0)] rfl rfl ?_
      rw [if_neg (show ¬ (y ≤ x ∧ x ≤ z) by have := @f_cmp_lt x y; have := @f_cmp_gt x z; omega)]
      exact f_ret2 rfl (Or.inl rfl) ⟨rfl, rfl⟩
    · have h2 : ¬ ((0) < (f_cmp (x) (z))) := h2
      refine f_s [fi (1)] rfl rfl ?_
      refine f_goto rfl ?_
      rw [if_pos (show y ≤ x ∧ x ≤ z by have := @f_cmp_lt x y; have := @f_cmp_gt x z; omega)]
      exact f_ret2 rfl (Or.inr rfl) ⟨rfl, rfl⟩)
theorem f61 (hc : ev_H) (p n : Int) (hp : -2147483648 ≤ p ∧ p ≤ 2147483647) (hn : 0 ≤ n ∧ n ≤ 100) {fs : List Value} (hq : hc[55]? = some (.inr (.inr (10, fs)))) (hw : fs[1]? = some (fi n)) : f_M 61 [.ref 55, fi p] hc (some (fi (if 0 ≤ p ∧ p ≤ n - 1 then 1 else 0))) hc := f_M_of (R := ev_r61) rfl (by
  have hL : f_L (lv_args 0 [.ref 55, fi p]) [(0, .ref 55), (1, fi p)] := f_L_of rfl
  generalize lv_args 0 [.ref 55, fi p] = L at hL
  show x_W none (2, 0, 2, 1, 11, 1, 25, 0, 0, ev_t61) 0 L [] hc 0 0 _
  refine f_iln 1 rfl hL rfl ?_
  refine f_i2l rfl (by omega) ?_
  refine f_s [fl (0), fl (p)] rfl rfl ?_
  refine f_aln 0 rfl hL rfl ?_
  refine f_gf rfl hq hw ?_
  refine f_s [fi (1), fi (n), fl (0), fl (p)] rfl rfl ?_
  refine f_isub rfl ?_
  refine f_i2l rfl (by omega) ?_
  refine f_k1 (f15 hc p 0 (n - 1) (by omega) (by omega) (by omega)) rfl rfl rfl rfl rfl ?_
  exact f_ret2 rfl (by split <;> omega) ⟨rfl, rfl⟩)
theorem f46 (hc : ev_H) (p n : Int) (hp : -2147483648 ≤ p ∧ p ≤ 2147483647) (hn : 0 ≤ n ∧ n ≤ 100) {fs : List Value} (hq : hc[55]? = some (.inr (.inr (10, fs)))) (hw : fs[0]? = some (fi n)) : f_M 46 [.ref 55, fi p] hc (some (fi (if 0 ≤ p ∧ p ≤ n - 1 then 1 else 0))) hc := f_M_of (R := ev_r46) rfl (by
  have hL : f_L (lv_args 0 [.ref 55, fi p]) [(0, .ref 55), (1, fi p)] := f_L_of rfl
  generalize lv_args 0 [.ref 55, fi p] = L at hL
  show x_W none (2, 0, 2, 1, 11, 1, 25, 0, 0, ev_t46) 0 L [] hc 0 0 _
  refine f_iln 1 rfl hL rfl ?_
  refine f_i2l rfl (by omega) ?_
  refine f_s [fl (0), fl (p)] rfl rfl ?_
  refine f_aln 0 rfl hL rfl ?_
  refine f_gf rfl hq hw ?_
  refine f_s [fi (1), fi (n), fl (0), fl (p)] rfl rfl ?_
  refine f_isub rfl ?_
  refine f_i2l rfl (by omega) ?_
  refine f_k1 (f15 hc p 0 (n - 1) (by omega) (by omega) (by omega)) rfl rfl rfl rfl rfl ?_
  exact f_ret2 rfl (by split <;> omega) ⟨rfl, rfl⟩)
