/-! bits as numbers -/
def iA (x y : Int) : Int := (Int32.ofInt x &&& Int32.ofInt y).toInt
def iO (x y : Int) : Int := (Int32.ofInt x ||| Int32.ofInt y).toInt
def iX (x y : Int) : Int := (Int32.ofInt x ^^^ Int32.ofInt y).toInt
def iS (x y : Int) : Int := (Int32.ofInt x <<< (Int32.ofInt y &&& 31)).toInt
def iR (x y : Int) : Int := (Int32.ofInt x >>> (Int32.ofInt y &&& 31)).toInt
def iU (x y : Int) : Int := ((Int32.ofInt x).toUInt32 >>> ((Int32.ofInt y).toUInt32 &&& Int32.toUInt32 31)).toInt32.toInt
theorem iA_r {x y : Int} : -2147483648 ≤ iA x y ∧ iA x y ≤ 2147483647 := f_i32 _
theorem iO_r {x y : Int} : -2147483648 ≤ iO x y ∧ iO x y ≤ 2147483647 := f_i32 _
theorem iX_r {x y : Int} : -2147483648 ≤ iX x y ∧ iX x y ≤ 2147483647 := f_i32 _
theorem iS_r {x y : Int} : -2147483648 ≤ iS x y ∧ iS x y ≤ 2147483647 := f_i32 _
theorem iR_r {x y : Int} : -2147483648 ≤ iR x y ∧ iR x y ≤ 2147483647 := f_i32 _
theorem iU_r {x y : Int} : -2147483648 ≤ iU x y ∧ iU x y ≤ 2147483647 := f_i32 _
/-- 32 bits -/
def i32w (x : Int) : Int := (Int32.ofInt x).toInt
theorem i32w_r {x : Int} : -2147483648 ≤ i32w x ∧ i32w x ≤ 2147483647 := f_i32 _
theorem i32w_of {x : Int} (h : -2147483648 ≤ x ∧ x ≤ 2147483647) : i32w x = x := x_i32 h.1 h.2
theorem fi_w {x : Int} : fi (i32w x) = fi x := by show Value.int (Int32.ofInt (Int32.ofInt x).toInt) = _; rw [Int32.ofInt_toInt]
section BRO
variable {sc : Option (List Int32)} {rt ini mx na rc fr lo mc ms : Nat} {t : ev_T} {pc : Nat} {Lc : ev_L} {stc : List Value} {hc : ev_H} {kc ks : Nat} {Q : Option Value → ev_H → Prop}
variable {pp0 a b pp : Nat} {v : Value} {x y : Int}
theorem b_iand (hf : ev_f t pc = some (pp0, .iand, a, b, pp, v)) (h : x_W sc (rt, ini, mx, na, rc, fr, lo, mc, ms, t) (pc + 1) Lc (fi (iA x y) :: stc) hc kc ks Q) : x_W sc (rt, ini, mx, na, rc, fr, lo, mc, ms, t) pc Lc (fi y :: fi x :: stc) hc kc ks Q := f_bin (iA x y) hf rfl (by show some (Value.int (Int32.ofInt x &&& Int32.ofInt y) :: stc) = some (Value.int (Int32.ofInt (Int32.ofInt x &&& Int32.ofInt y).toInt) :: stc); rw [Int32.ofInt_toInt]) h
theorem b_ior (hf : ev_f t pc = some (pp0, .ior, a, b, pp, v)) (h : x_W sc (rt, ini, mx, na, rc, fr, lo, mc, ms, t) (pc + 1) Lc (fi (iO x y) :: stc) hc kc ks Q) : x_W sc (rt, ini, mx, na, rc, fr, lo, mc, ms, t) pc Lc (fi y :: fi x :: stc) hc kc ks Q := f_bin (iO x y) hf rfl (by show some (Value.int (Int32.ofInt x ||| Int32.ofInt y) :: stc) = some (Value.int (Int32.ofInt (Int32.ofInt x ||| Int32.ofInt y).toInt) :: stc); rw [Int32.ofInt_toInt]) h
theorem b_ixor (hf : ev_f t pc = some (pp0, .ixor, a, b, pp, v)) (h : x_W sc (rt, ini, mx, na, rc, fr, lo, mc, ms, t) (pc + 1) Lc (fi (iX x y) :: stc) hc kc ks Q) : x_W sc (rt, ini, mx, na, rc, fr, lo, mc, ms, t) pc Lc (fi y :: fi x :: stc) hc kc ks Q := f_bin (iX x y) hf rfl (by show some (Value.int (Int32.ofInt x ^^^ Int32.ofInt y) :: stc) = some (Value.int (Int32.ofInt (Int32.ofInt x ^^^ Int32.ofInt y).toInt) :: stc); rw [Int32.ofInt_toInt]) h
theorem b_ishl (hf : ev_f t pc = some (pp0, .ishl, a, b, pp, v)) (h : x_W sc (rt, ini, mx, na, rc, fr, lo, mc, ms, t) (pc + 1) Lc (fi (iS x y) :: stc) hc kc ks Q) : x_W sc (rt, ini, mx, na, rc, fr, lo, mc, ms, t) pc Lc (fi y :: fi x :: stc) hc kc ks Q := f_bin (iS x y) hf rfl (by show some (Value.int (Int32.ofInt x <<< (Int32.ofInt y &&& 31)) :: stc) = some (Value.int (Int32.ofInt (Int32.ofInt x <<< (Int32.ofInt y &&& 31)).toInt) :: stc); rw [Int32.ofInt_toInt]) h
theorem b_ishr (hf : ev_f t pc = some (pp0, .ishr, a, b, pp, v)) (h : x_W sc (rt, ini, mx, na, rc, fr, lo, mc, ms, t) (pc + 1) Lc (fi (iR x y) :: stc) hc kc ks Q) : x_W sc (rt, ini, mx, na, rc, fr, lo, mc, ms, t) pc Lc (fi y :: fi x :: stc) hc kc ks Q := f_bin (iR x y) hf rfl (by show some (Value.int (Int32.ofInt x >>> (Int32.ofInt y &&& 31)) :: stc) = some (Value.int (Int32.ofInt (Int32.ofInt x >>> (Int32.ofInt y &&& 31)).toInt) :: stc); rw [Int32.ofInt_toInt]) h
theorem b_iushr (hf : ev_f t pc = some (pp0, .iushr, a, b, pp, v)) (h : x_W sc (rt, ini, mx, na, rc, fr, lo, mc, ms, t) (pc + 1) Lc (fi (iU x y) :: stc) hc kc ks Q) : x_W sc (rt, ini, mx, na, rc, fr, lo, mc, ms, t) pc Lc (fi y :: fi x :: stc) hc kc ks Q := f_bin (iU x y) hf rfl (by show some (Value.int ((Int32.ofInt x).toUInt32 >>> ((Int32.ofInt y).toUInt32 &&& Int32.toUInt32 31)).toInt32 :: stc) = some (Value.int (Int32.ofInt ((Int32.ofInt x).toUInt32 >>> ((Int32.ofInt y).toUInt32 &&& Int32.toUInt32 31)).toInt32.toInt) :: stc); rw [Int32.ofInt_toInt]) h
theorem b_ldc (z : Int) {k : Nat} {w : Int32} (hf : ev_f t pc = some (pp0, .ldc_w k, a, b, pp, .int w)) (hz : w = Int32.ofInt z) (h : x_W sc (rt, ini, mx, na, rc, fr, lo, mc, ms, t) (pc + 3) Lc (fi z :: stc) hc kc ks Q) : x_W sc (rt, ini, mx, na, rc, fr, lo, mc, ms, t) pc Lc stc hc kc ks Q := x_W_s hf (st' := fi z :: stc) (by show some (Value.int w :: stc) = _; rw [hz]) h
theorem b_eq {z : Int} (e : z = x) (h : x_W sc (rt, ini, mx, na, rc, fr, lo, mc, ms, t) pc Lc (fi x :: stc) hc kc ks Q) : x_W sc (rt, ini, mx, na, rc, fr, lo, mc, ms, t) pc Lc (fi z :: stc) hc kc ks Q := by rw [e]; exact h
/-- a number that may pass 32 bits is kept as 32 bits -/
theorem b_w (h : x_W sc (rt, ini, mx, na, rc, fr, lo, mc, ms, t) pc Lc (fi (i32w x) :: stc) hc kc ks Q) : x_W sc (rt, ini, mx, na, rc, fr, lo, mc, ms, t) pc Lc (fi x :: stc) hc kc ks Q := by rw [fi_w] at h; exact h
end BRO
theorem gi_r (hc : ev_H) (q i : Nat) : -2147483648 ≤ gi hc q i ∧ gi hc q i ≤ 2147483647 := by
  unfold gi
  split
  · exact f_i32 _
  · decide
theorem gi_R {hc : ev_H} {m : Nat → Nat → Int} (hm : gi hc = m) : ∀ q i, -2147483648 ≤ m q i ∧ m q i ≤ 2147483647 := fun q i => by rw [← hm]; exact gi_r hc q i
