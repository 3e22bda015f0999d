/-! rows for walks by hand: locals by look-up, ints as numbers; methods that write nothing -/
abbrev fi (z : Int) : Value := .int (Int32.ofInt z)
def f_L (L : ev_L) (l : List (Nat × Value)) : Prop := ∀ e ∈ l, ev_lk L e.1 = some e.2
def f_up (l : List (Nat × Value)) (k : Nat) (v : Value) : List (Nat × Value) := (k, v) :: l.filter (fun q => !(q.1 == k) && !(q.1 + 1 == k && q.2.category == 2))
theorem f_L.at {L : ev_L} {l : List (Nat × Value)} (h : f_L L l) (j : Nat) {k : Nat} {v : Value} (hj : l[j]? = some (k, v)) : ev_lk L k = some v := h _ (List.mem_of_getElem? hj)
theorem f_L.st {L : ev_L} {l : List (Nat × Value)} (h : f_L L l) (k : Nat) (v : Value) : f_L (ev_s1 L k v) (f_up l k v) := by
  intro e he
  unfold f_up at he
  rcases List.mem_cons.mp he with rfl | he
  · exact x_lk_h
  · obtain ⟨h1, h2⟩ := List.mem_filter.mp he
    have hk : k ≠ e.1 := fun z => by
      rw [← z] at h2
      simp at h2
    unfold ev_s1
    rw [x_lk_c hk]
    exact x_lk_g (h e h1) h2
theorem f_L.of {L : ev_L} {l l' : List (Nat × Value)} (h : f_L L l) (hs : ∀ e ∈ l', e ∈ l) : f_L L l' := fun e he => h e (hs e he)
/-- a method answers r, and leaves the cells as hc' -/
def f_M (a : Nat) (as : List Value) (hc : ev_H) (r : Option Value) (hc' : ev_H) : Prop := ∀ R, ev_ms a = some R → ∃ n, ev n none R.1 0 (lv_args 0 as) [] hc 0 0 = some (r, hc')
theorem f_M.un {a : Nat} {as : List Value} {hc h1 h2 : ev_H} {r1 r2 : Option Value} {R : ev_R} (hR : ev_ms a = some R) (h : f_M a as hc r1 h1) (h' : f_M a as hc r2 h2) : r1 = r2 ∧ h1 = h2 := by
  obtain ⟨n, e⟩ := h R hR
  obtain ⟨n', e'⟩ := h' R hR
  have e := ev_mono (Nat.le_max_left n n') e
  have e' := ev_mono (Nat.le_max_right n n') e'
  rw [e] at e'
  cases e'
  exact ⟨rfl, rfl⟩
section FROW
variable {sc : Option (List Int32)} {rt ini mx na rc fr lo mc ms : Nat} {t : ev_T} {pc : Nat} {Lc : ev_L} {stc : List Value} {hc : ev_H} {kc ks : Nat} {Q : Option Value → ev_H → Prop}
variable {pp0 a b pp : Nat} {i : Instr} {v : Value} {l : List (Nat × Value)}
theorem f_s (st' : List Value) (hf : ev_f t pc = some (pp0, i, a, b, pp, v)) (hs : ev_s i v stc = some st') (h : x_W sc (rt, ini, mx, na, rc, fr, lo, mc, ms, t) (pc + ev_len i) Lc st' hc kc ks Q) : x_W sc (rt, ini, mx, na, rc, fr, lo, mc, ms, t) pc Lc stc hc kc ks Q := x_W_s hf hs h
theorem f_iln {k : Fin 4} {x : Int32} (j : Nat) (hf : ev_f t pc = some (pp0, .iload_n k, a, b, pp, v)) (hL : f_L Lc l) (hj : l[j]? = some (k.val, .int x)) (h : x_W sc (rt, ini, mx, na, rc, fr, lo, mc, ms, t) (pc + 1) Lc (.int x :: stc) hc kc ks Q) : x_W sc (rt, ini, mx, na, rc, fr, lo, mc, ms, t) pc Lc stc hc kc ks Q :=
  x_W_l hf (st' := .int x :: stc) (L' := Lc) (by unfold ev_l; dsimp only; rw [hL.at j hj]) h
theorem f_il {k : Nat} {x : Int32} (j : Nat) (hf : ev_f t pc = some (pp0, .iload k, a, b, pp, v)) (hL : f_L Lc l) (hj : l[j]? = some (k, .int x)) (h : x_W sc (rt, ini, mx, na, rc, fr, lo, mc, ms, t) (pc + 2) Lc (.int x :: stc) hc kc ks Q) : x_W sc (rt, ini, mx, na, rc, fr, lo, mc, ms, t) pc Lc stc hc kc ks Q :=
  x_W_l hf (st' := .int x :: stc) (L' := Lc) (by unfold ev_l; dsimp only; rw [hL.at j hj]) h
theorem f_aln {k : Fin 4} {x : Nat} (j : Nat) (hf : ev_f t pc = some (pp0, .aload_n k, a, b, pp, v)) (hL : f_L Lc l) (hj : l[j]? = some (k.val, .ref x)) (h : x_W sc (rt, ini, mx, na, rc, fr, lo, mc, ms, t) (pc + 1) Lc (.ref x :: stc) hc kc ks Q) : x_W sc (rt, ini, mx, na, rc, fr, lo, mc, ms, t) pc Lc stc hc kc ks Q :=
  x_W_l hf (st' := .ref x :: stc) (L' := Lc) (by unfold ev_l; dsimp only; rw [hL.at j hj]) h
theorem f_istn {k : Fin 4} {x : Int32} (l' : List (Nat × Value)) (hf : ev_f t pc = some (pp0, .istore_n k, a, b, pp, v)) (hk : k.val < mx) (hL : f_L Lc l) (hl : f_up l k.val (.int x) = l') (h : ∀ L', f_L L' l' → x_W sc (rt, ini, mx, na, rc, fr, lo, mc, ms, t) (pc + 1) L' stc hc kc ks Q) : x_W sc (rt, ini, mx, na, rc, fr, lo, mc, ms, t) pc Lc (.int x :: stc) hc kc ks Q :=
  x_W_l hf (st' := stc) (L' := ev_s1 Lc k.val (.int x)) (by unfold ev_l; dsimp only; rw [if_pos hk]) (h _ (by rw [← hl]; exact hL.st _ _))
theorem f_ist {k : Nat} {x : Int32} (l' : List (Nat × Value)) (hf : ev_f t pc = some (pp0, .istore k, a, b, pp, v)) (hk : k < mx) (hL : f_L Lc l) (hl : f_up l k (.int x) = l') (h : ∀ L', f_L L' l' → x_W sc (rt, ini, mx, na, rc, fr, lo, mc, ms, t) (pc + 2) L' stc hc kc ks Q) : x_W sc (rt, ini, mx, na, rc, fr, lo, mc, ms, t) pc Lc (.int x :: stc) hc kc ks Q :=
  x_W_l hf (st' := stc) (L' := ev_s1 Lc k (.int x)) (by unfold ev_l; dsimp only; rw [if_pos hk]) (h _ (by rw [← hl]; exact hL.st _ _))
theorem f_inc {k : Nat} {n z : Int} (j : Nat) (l' : List (Nat × Value)) (hf : ev_f t pc = some (pp0, .iinc k n, a, b, pp, v)) (hk : k < mx) (hL : f_L Lc l) (hj : l[j]? = some (k, fi z)) (hl : f_up l k (fi (z + n)) = l') (h : ∀ L', f_L L' l' → x_W sc (rt, ini, mx, na, rc, fr, lo, mc, ms, t) (pc + 3) L' stc hc kc ks Q) : x_W sc (rt, ini, mx, na, rc, fr, lo, mc, ms, t) pc Lc stc hc kc ks Q :=
  x_W_l hf (st' := stc) (L' := ev_s1 Lc k (fi (z + n))) (by
    unfold ev_l
    try dsimp only
    rw [hL.at j hj]
    try dsimp only
    rw [if_pos hk, ← Int32.ofInt_add]) (h _ (by rw [← hl]; exact hL.st _ _))
theorem f_goto {d : Int} (hf : ev_f t pc = some (pp0, .goto d, a, b, pp, v)) (h : x_W sc (rt, ini, mx, na, rc, fr, lo, mc, ms, t) a Lc stc hc kc ks Q) : x_W sc (rt, ini, mx, na, rc, fr, lo, mc, ms, t) pc Lc stc hc kc ks Q := x_W_j hf (pc' := a) (st' := stc) rfl h
theorem f_ic {c : ClassFile.Cond} {d x y : Int} (hf : ev_f t pc = some (pp0, .if_icmp c d, a, b, pp, v)) (hx : -2147483648 ≤ x ∧ x ≤ 2147483647) (hy : -2147483648 ≤ y ∧ y ≤ 2147483647) (h1 : x_cp c x y → x_W sc (rt, ini, mx, na, rc, fr, lo, mc, ms, t) a Lc stc hc kc ks Q) (h2 : ¬ x_cp c x y → x_W sc (rt, ini, mx, na, rc, fr, lo, mc, ms, t) (pc + 3) Lc stc hc kc ks Q) : x_W sc (rt, ini, mx, na, rc, fr, lo, mc, ms, t) pc Lc (fi y :: fi x :: stc) hc kc ks Q := by
  obtain ⟨j1, j2⟩ := x_icj (c := c) (off := d) (pc := pc) (a := a) (r := stc) hx.1 hx.2 hy.1 hy.2
  by_cases hh : x_cp c x y
  · exact x_W_j hf (j1 hh) (h1 hh)
  · exact x_W_j hf (j2 hh) (h2 hh)
theorem f_if {c : ClassFile.Cond} {d x : Int} (hf : ev_f t pc = some (pp0, .ifCond c d, a, b, pp, v)) (hx : -2147483648 ≤ x ∧ x ≤ 2147483647) (h1 : x_cp c x 0 → x_W sc (rt, ini, mx, na, rc, fr, lo, mc, ms, t) a Lc stc hc kc ks Q) (h2 : ¬ x_cp c x 0 → x_W sc (rt, ini, mx, na, rc, fr, lo, mc, ms, t) (pc + 3) Lc stc hc kc ks Q) : x_W sc (rt, ini, mx, na, rc, fr, lo, mc, ms, t) pc Lc (fi x :: stc) hc kc ks Q := by
  obtain ⟨j1, j2⟩ := x_icj (c := c) (off := d) (pc := pc) (a := a) (r := stc) hx.1 hx.2 (show (-2147483648 : Int) ≤ 0 by decide) (show (0 : Int) ≤ 2147483647 by decide)
  have e0 : Int32.ofInt 0 = 0 := rfl
  rw [e0, ← x_ifj] at j1 j2
  by_cases hh : x_cp c x 0
  · exact x_W_j hf (j1 hh) (h1 hh)
  · exact x_W_j hf (j2 hh) (h2 hh)
theorem f_ret1 {x : Int32} (hf : ev_f t pc = some (pp0, .ireturn, a, b, pp, v)) (h : Q (some (.int x)) hc) : x_W sc (1, ini, mx, na, rc, fr, lo, mc, ms, t) pc Lc [.int x] hc kc ks Q := x_W_r hf (r := some (.int x)) rfl h
theorem f_bin (z : Int) {x y : Int} (hf : ev_f t pc = some (pp0, i, a, b, pp, v)) (hi : ev_len i = 1) (hs : ev_s i v (fi y :: fi x :: stc) = some (fi z :: stc)) (h : x_W sc (rt, ini, mx, na, rc, fr, lo, mc, ms, t) (pc + 1) Lc (fi z :: stc) hc kc ks Q) : x_W sc (rt, ini, mx, na, rc, fr, lo, mc, ms, t) pc Lc (fi y :: fi x :: stc) hc kc ks Q := x_W_s hf hs (by rw [hi]; exact h)
theorem f_iadd {x y : Int} (hf : ev_f t pc = some (pp0, .iadd, a, b, pp, v)) (h : x_W sc (rt, ini, mx, na, rc, fr, lo, mc, ms, t) (pc + 1) Lc (fi (x + y) :: stc) hc kc ks Q) : x_W sc (rt, ini, mx, na, rc, fr, lo, mc, ms, t) pc Lc (fi y :: fi x :: stc) hc kc ks Q := f_bin _ hf rfl (by show some (Value.int (Int32.ofInt x + Int32.ofInt y) :: stc) = _; rw [← Int32.ofInt_add]) h
theorem f_isub {x y : Int} (hf : ev_f t pc = some (pp0, .isub, a, b, pp, v)) (h : x_W sc (rt, ini, mx, na, rc, fr, lo, mc, ms, t) (pc + 1) Lc (fi (x - y) :: stc) hc kc ks Q) : x_W sc (rt, ini, mx, na, rc, fr, lo, mc, ms, t) pc Lc (fi y :: fi x :: stc) hc kc ks Q := f_bin _ hf rfl (by show some (Value.int (Int32.ofInt x - Int32.ofInt y) :: stc) = _; rw [← Int32.ofInt_sub]) h
theorem f_imul {x y : Int} (hf : ev_f t pc = some (pp0, .imul, a, b, pp, v)) (h : x_W sc (rt, ini, mx, na, rc, fr, lo, mc, ms, t) (pc + 1) Lc (fi (x * y) :: stc) hc kc ks Q) : x_W sc (rt, ini, mx, na, rc, fr, lo, mc, ms, t) pc Lc (fi y :: fi x :: stc) hc kc ks Q := f_bin _ hf rfl (by show some (Value.int (Int32.ofInt x * Int32.ofInt y) :: stc) = _; rw [← Int32.ofInt_mul]) h
theorem f_ne0 {y : Int} (h1 : 1 ≤ y) (h2 : y ≤ 2147483647) : ¬ Int32.ofInt y = 0 := fun h => by
  have := congrArg Int32.toInt h
  rw [x_i32 (by omega) h2] at this
  have e0 : (0 : Int32).toInt = 0 := rfl
  omega
theorem f_irem {x y : Int} (hf : ev_f t pc = some (pp0, .irem, a, b, pp, v)) (x1 : 0 ≤ x) (x2 : x ≤ 2147483647) (y1 : 1 ≤ y) (y2 : y ≤ 2147483647) (h : x_W sc (rt, ini, mx, na, rc, fr, lo, mc, ms, t) (pc + 1) Lc (fi (x % y) :: stc) hc kc ks Q) : x_W sc (rt, ini, mx, na, rc, fr, lo, mc, ms, t) pc Lc (fi y :: fi x :: stc) hc kc ks Q := f_bin _ hf rfl (by
  show (if Int32.ofInt y = 0 then none else some (Value.int (Int32.ofInt x - Int32.ofInt x / Int32.ofInt y * Int32.ofInt y) :: stc)) = _
  rw [if_neg (f_ne0 y1 y2), x_div32 (by omega) x2 y1 y2, ← Int32.ofInt_mul, ← Int32.ofInt_sub, Int.tdiv_eq_ediv_of_nonneg x1]
  have := Int.emod_def x y
  rw [Int.mul_comm] at this
  rw [this]) h
theorem f_idiv {x y : Int} (hf : ev_f t pc = some (pp0, .idiv, a, b, pp, v)) (x1 : -2147483648 ≤ x) (x2 : x ≤ 2147483647) (y1 : 1 ≤ y) (y2 : y ≤ 2147483647) (h : x_W sc (rt, ini, mx, na, rc, fr, lo, mc, ms, t) (pc + 1) Lc (fi (x.tdiv y) :: stc) hc kc ks Q) : x_W sc (rt, ini, mx, na, rc, fr, lo, mc, ms, t) pc Lc (fi y :: fi x :: stc) hc kc ks Q := f_bin _ hf rfl (by
  show (if Int32.ofInt y = 0 then none else some (Value.int (Int32.ofInt x / Int32.ofInt y) :: stc)) = _
  rw [if_neg (f_ne0 y1 y2), x_div32 x1 x2 y1 y2]) h
/-- a field, an element -/
theorem f_gf {q c k : Nat} {fs : List Value} {w : Value} (hf : ev_f t pc = some (pp0, .getfield k, c, b, pp, v)) (hq : hc[q]? = some (.inr (.inr (c, fs)))) (hw : fs[b]? = some w) (h : x_W sc (rt, ini, mx, na, rc, fr, lo, mc, ms, t) (pc + 3) Lc (w :: stc) hc kc ks Q) : x_W sc (rt, ini, mx, na, rc, fr, lo, mc, ms, t) pc Lc (.ref q :: stc) hc kc ks Q :=
  x_W_h hf (st' := w :: stc) (hc' := hc) (by
    unfold ev_h
    try dsimp only
    rw [hq]
    try dsimp only
    rw [Nat.beq_refl]
    try dsimp only
    rw [hw]) h
theorem f_ia {q : Nat} {xs : List Int32} {x : Int32} {j : Int} (hf : ev_f t pc = some (pp0, .iaload, a, b, pp, v)) (hq : hc[q]? = some (.inl (0, xs))) (j1 : 0 ≤ j) (j2 : j ≤ 2147483647) (hx : xs[j.toNat]? = some x) (h : x_W sc (rt, ini, mx, na, rc, fr, lo, mc, ms, t) (pc + 1) Lc (.int x :: stc) hc kc ks Q) : x_W sc (rt, ini, mx, na, rc, fr, lo, mc, ms, t) pc Lc (fi j :: .ref q :: stc) hc kc ks Q :=
  x_W_h hf (st' := .int x :: stc) (hc' := hc) (by
    have hl := (List.getElem?_eq_some_iff.mp hx).1
    have ej : (Int32.ofInt j).toInt = j := x_i32 (by omega) j2
    have en : (Int32.ofInt j).toNatClampNeg = j.toNat := by
      show ((Int32.ofInt j).toInt).toNat = j.toNat
      rw [ej]
    have hi : ev_inn (Int32.ofInt j) xs.length = true := by
      unfold ev_inn
      rw [en]
      have : ¬ (Int32.ofInt j < 0) := by
        rw [Int32.lt_iff_toInt_lt, ej]
        have e0 : (0 : Int32).toInt = 0 := rfl
        omega
      simp [this, hl]
    unfold ev_h
    try dsimp only
    rw [hq]
    show (match ev_inn (Int32.ofInt j) xs.length with
      | true => some (Value.int (xs.getD (Int32.ofInt j).toNatClampNeg 0) :: stc, hc)
      | false => none) = _
    rw [hi, en, List.getD_eq_getElem?_getD, hx]
    rfl) h
/-- a call of a method that answers -/
theorem f_k {rt' ini' mx' na' rc' fr' lo' mc' ms' : Nat} {t' : ev_T} {q9 : MethodName × ByteArray × Option FieldType × Nat × Nat × Nat × Nat} {as r : List Value} {rv : Option Value} {hc' : ev_H} (hM : f_M a as hc rv hc') (hf : ev_f t pc = some (pp0, i, a, b, pp, v)) (hk : ev_k i b = some 0) (hm : ev_ms a = some ((rt', ini', mx', na', rc', fr', lo', mc', ms', t'), q9)) (har : ev_ar rc' na' stc hc = some (as, r))
    (hcd : (ev_fit i (rt', ini', mx', na', rc', fr', lo', mc', ms', t') && (Nat.ble (fr' + 1) fr && (Nat.ble (8 + (mx' + 11) + lo') lo && (Nat.ble (ev_sum r) 8 && (Nat.ble (ev_sum as) mx' && (Nat.ble (kc + mc') mc && Nat.ble (ks + ms') ms)))))) = true)
    (h : x_W sc (rt, ini, mx, na, rc, fr, lo, mc, ms, t) (pc + 3) Lc (rv.toList ++ r) hc' (kc + mc') (ks + ms') Q) : x_W sc (rt, ini, mx, na, rc, fr, lo, mc, ms, t) pc Lc stc hc kc ks Q := by
  obtain ⟨n, e⟩ := hM _ hm
  exact x_W_k hf hk hm har hcd ⟨n, rv, hc', e, h⟩
end FROW
theorem f_ar_v {c na q : Nat} {st r : List Value} {fs : List Value} {hc : ev_H} (hq : hc[q]? = some (.inr (.inr (c, fs)))) (hd : st.drop na = .ref q :: r) : ev_ar (c + 1) na st hc = some (.ref q :: (st.take na).reverse, r) := by
  unfold ev_ar
  dsimp only
  rw [hd]
  dsimp only
  rw [hq]
  dsimp only
  rw [Nat.beq_refl]
theorem f_M_of {a : Nat} {as : List Value} {hc hc' : ev_H} {r : Option Value} {R : ev_R} (hR : ev_ms a = some R) (h : x_W none R.1 0 (lv_args 0 as) [] hc 0 0 (fun r' h' => r' = r ∧ h' = hc')) : f_M a as hc r hc' := fun R' hR' => by
  rw [hR] at hR'
  cases hR'
  obtain ⟨n, r', h', e, e1, e2⟩ := h
  subst e1
  subst e2
  exact ⟨n, e⟩
/-! methods that write nothing -/
def f_pi (i : Instr) : Bool := match i with
  | .putfield _ => false
  | .iastore => false
  | .castore => false
  | .bastore => false
  | .new _ => false
  | .newarray _ => false
  | .multianewarray _ _ => false
  | _ => true
def f_pe (P : Nat → Bool) (e : ev_E) : Bool := f_pi e.2.1 && (match ev_k e.2.1 e.2.2.2.1 with
  | none => true
  | some 0 => P e.2.2.1
  | some 1 => true
  | some _ => false)
def f_pt (P : Nat → Bool) (t : ev_T) : Bool := t.all (fun l => l.all (fun e => f_pe P e))
theorem f_a_in {pc : Nat} {e : ev_E} : ∀ {l : List ev_E}, ev_a l pc = some e → e ∈ l := by
  intro l
  induction l with
  | nil => intro h; cases h
  | cons x r ih =>
    intro h
    unfold ev_a at h
    split at h
    · cases h; exact List.mem_cons_self
    · exact List.mem_cons_of_mem _ (ih h)
theorem f_pt_e {P : Nat → Bool} {t : ev_T} (h : f_pt P t = true) {pc : Nat} {e : ev_E} (he : ev_f t pc = some e) : f_pe P e = true := by
  unfold ev_f at he
  have h1 := f_a_in he
  unfold f_pt at h
  rw [List.getD_eq_getElem?_getD] at h1
  cases hq : t[pc / 16]? with
  | none => rw [hq] at h1; cases h1
  | some l =>
    rw [hq] at h1
    exact List.all_eq_true.mp (List.all_eq_true.mp h l (List.mem_of_getElem? hq)) e h1
theorem f_h_same {sc : Option (List Int32)} {i : Instr} {ini a b : Nat} {st st' : List Value} {hp hp' : ev_H} (hi : f_pi i = true) (h : ev_h sc i ini a b st hp = some (st', hp')) : hp' = hp := by
  unfold ev_h at h
  split at h
  all_goals first
    | (exact absurd hi Bool.false_ne_true)
    | (repeat' split at h)
  all_goals first
    | (cases h; done)
    | (simp only [Option.some.injEq, Prod.mk.injEq] at h; exact h.2.symm)
theorem f_n_no {i : Instr} {a : Nat} {st : List Value} {hp : ev_H} {x : List Value × ev_H × Nat × Nat} (hi : f_pi i = true) (h : ev_n i a st hp = some x) : False := by
  unfold ev_n at h
  split at h
  all_goals first
    | (exact absurd hi Bool.false_ne_true)
    | cases h
set_option maxHeartbeats 4000000 in
theorem f_pure {P : Nat → Bool} (hP : ∀ a, P a = true → ∀ R, ev_ms a = some R → f_pt P R.1.2.2.2.2.2.2.2.2.2 = true) : ∀ (n : Nat) (sc : Option (List Int32)) (I : ev_I) (pc : Nat) (L : ev_L) (st : List Value) (hp : ev_H) (kc ks : Nat) (r : Option Value) (hp' : ev_H), f_pt P I.2.2.2.2.2.2.2.2.2 = true → ev n sc I pc L st hp kc ks = some (r, hp') → hp' = hp := by
  intro n
  induction n with
  | zero => intro sc I pc L st hp kc ks r hp' _ h; cases h
  | succ n IH =>
    intro sc I pc L st hp kc ks r hp' ht h
    obtain ⟨rt, ini, mx, na, rc, fr, lo, mc, ms, t⟩ := I
    have ht : f_pt P t = true := ht
    unfold ev at h
    try dsimp only at h
    cases e1 : ev_f t pc with
    | none => rw [e1] at h; cases h
    | some x =>
      have hpe := f_pt_e ht e1
      obtain ⟨pp0, i, a, b, pp, v⟩ := x
      unfold f_pe at hpe
      rw [Bool.and_eq_true] at hpe
      obtain ⟨hpi, hpk⟩ := hpe
      have hpi : f_pi i = true := hpi
      rw [e1] at h
      try dsimp only at h
      cases e2 : ev_s i v st with
      | some st' => rw [e2] at h; exact IH _ _ _ _ _ _ _ _ _ _ ht h
      | none =>
        rw [e2] at h
        try dsimp only at h
        cases e3 : ev_l i mx L st with
        | some x => rw [e3] at h; exact IH _ _ _ _ _ _ _ _ _ _ ht h
        | none =>
          rw [e3] at h
          try dsimp only at h
          cases e4 : ev_h sc i ini a b st hp with
          | some x =>
            obtain ⟨st4, hp4⟩ := x
            have := f_h_same hpi e4
            subst this
            rw [e4] at h
            exact IH _ _ _ _ _ _ _ _ _ _ ht h
          | none =>
            rw [e4] at h
            try dsimp only at h
            cases e5 : ev_j i pc a st with
            | some x => rw [e5] at h; exact IH _ _ _ _ _ _ _ _ _ _ ht h
            | none =>
              rw [e5] at h
              try dsimp only at h
              cases e6 : ev_rok rt i st with
              | some x => rw [e6] at h; cases h; rfl
              | none =>
                rw [e6] at h
                try dsimp only at h
                have hpk : (match ev_k i b with
                  | none => true
                  | some 0 => P a
                  | some 1 => true
                  | some _ => false) = true := hpk
                split at h
                · rename_i hk9
                  rw [hk9] at hpk
                  have hpk : P a = true := hpk
                  split at h
                  · cases h
                  · rename_i e8
                    split at h
                    · cases h
                    · split at h
                      · cases h
                      · split at h
                        · cases h
                        · rename_i e11
                          have h1 := IH _ _ _ _ _ _ _ _ _ _ (hP a hpk _ e8) e11
                          subst h1
                          exact IH _ _ _ _ _ _ _ _ _ _ ht h
                        · rename_i e11
                          have h1 := IH _ _ _ _ _ _ _ _ _ _ (hP a hpk _ e8) e11
                          subst h1
                          exact IH _ _ _ _ _ _ _ _ _ _ ht h
                · cases st with
                  | nil => cases h
                  | cons v0 r0 => cases v0 with
                    | ref q =>
                      try dsimp only at h
                      split at h
                      · exact IH _ _ _ _ _ _ _ _ _ _ ht h
                      · cases h
                    | _ => cases h
                · rename_i hk9
                  rw [hk9] at hpk
                  cases hpk
                · split at h
                  · rename_i e8
                    exact (f_n_no hpi e8).elim
                  · cases h
/-- a contract of a method that writes nothing: an answer, the cells as they were -/
theorem f_Mp {g : yQ} {a : Nat} {ct : yCt} {P : Nat → Bool} {R : ev_R} (hR : ev_ms a = some R) (hM : y_Mca g a ct) (hP : ∀ a, P a = true → ∀ R, ev_ms a = some R → f_pt P R.1.2.2.2.2.2.2.2.2.2 = true) (ha : P a = true) {hc : ev_H} {as : List Value} (hin : y_in g hc) (hargs : y_args ct.1 as) : ∃ r, y_ret ct.2.1 r ∧ f_M a as hc r hc := by
  obtain ⟨n, r, hc', e, e1, e2, e3⟩ := hM R hR hc as hin hargs
  have := f_pure hP n none R.1 0 _ _ _ _ _ _ _ (hP a ha R hR) e
  subst this
  refine ⟨r, e1, fun R' hR' => ?_⟩
  rw [hR] at hR'
  cases hR'
  exact ⟨n, e⟩
/-! starts and ends of walks -/
theorem f_L_of {L : ev_L} {l : List (Nat × Value)} (h : l.map (fun e => ev_lk L e.1) = l.map (fun e => some e.2)) : f_L L l := fun e he => List.map_inj_left.mp h e he
theorem f_L.sel {L : ev_L} {l l' : List (Nat × Value)} (h : f_L L l) (js : List Nat) (hj : js.map (fun j => l[j]?) = l'.map some) : f_L L l' := fun e he => by
  have h1 : some e ∈ l'.map some := List.mem_map.mpr ⟨e, he, rfl⟩
  rw [← hj] at h1
  obtain ⟨j, -, hj⟩ := List.mem_map.mp h1
  exact h e (List.mem_of_getElem? hj)
theorem f_argi {lo hi : Int} {v : Value} (h : y_rA (0, lo, hi, false) v) : ∃ z : Int, v = fi z ∧ lo ≤ z ∧ z ≤ hi := by
  obtain ⟨z, rfl, hz⟩ := h
  rcases hz with ⟨h1, h2⟩ | ⟨h1, _⟩
  · exact ⟨z.toInt, by show Value.int z = Value.int (Int32.ofInt z.toInt); rw [Int32.ofInt_toInt], h1, h2⟩
  · cases h1
theorem f_argr {q : Nat} {v : Value} (h : y_rA (2, Int.ofNat q, Int.ofNat q, false) v) : v = .ref q := by
  obtain ⟨k, rfl, h1, h2⟩ := h
  have h1 : (q : Int) ≤ (k : Int) := h1
  have h2 : (k : Int) ≤ (q : Int) := h2
  rw [show k = q by omega]
theorem f_args1 {f : yF} {fs : List yF} {as : List Value} (h : y_args (f :: fs) as) : ∃ v as', as = v :: as' ∧ y_rA f v ∧ y_args fs as' := by
  cases as with
  | nil => cases h.1
  | cons v as' => exact ⟨v, as', rfl, h.2 0 f v rfl rfl, Nat.succ.inj h.1, fun k f' v' h1 h2 => h.2 (k + 1) f' v' h1 h2⟩
theorem f_args0 {as : List Value} (h : y_args [] as) : as = [] := List.length_eq_zero_iff.mp h.1.symm
theorem f_W_mono {sc : Option (List Int32)} {I : ev_I} {pc : Nat} {L : ev_L} {st : List Value} {hc : ev_H} {kc ks : Nat} {Q Q' : Option Value → ev_H → Prop} (h : x_W sc I pc L st hc kc ks Q) (hq : ∀ r h, Q r h → Q' r h) : x_W sc I pc L st hc kc ks Q' := by
  obtain ⟨n, r, h9, e, q⟩ := h
  exact ⟨n, r, h9, e, hq r h9 q⟩
theorem f_rF {lo hi z : Int} (h1 : -2147483648 ≤ lo) (h2 : hi ≤ 2147483647) (h3 : lo ≤ z) (h4 : z ≤ hi) : y_rF (0, lo, hi, false) (fi z) := ⟨Int32.ofInt z, rfl, Or.inl ⟨by rw [x_i32 (by omega) (by omega)]; exact h3, by rw [x_i32 (by omega) (by omega)]; exact h4⟩⟩
theorem f_rA {lo hi z : Int} (h1 : -2147483648 ≤ lo) (h2 : hi ≤ 2147483647) (h3 : lo ≤ z) (h4 : z ≤ hi) : y_rA (0, lo, hi, false) (fi z) := f_rF h1 h2 h3 h4
theorem f_rAr {q : Nat} : y_rA (2, Int.ofNat q, Int.ofNat q, false) (.ref q) := ⟨q, rfl, Int.le_refl _, Int.le_refl _⟩
theorem f_args_c {f : yF} {fs : List yF} {v : Value} {as : List Value} (h : y_rA f v) (hs : y_args fs as) : y_args (f :: fs) (v :: as) := ⟨by rw [List.length_cons, List.length_cons, hs.1], fun k f' v' h1 h2 => by
  cases k with
  | zero => cases h1; cases h2; exact h
  | succ k => exact hs.2 k f' v' h1 h2⟩
theorem f_args_n : y_args [] [] := ⟨rfl, fun k f v h => by cases h⟩
