/-! rows that write; write and wipe of both -/
def f_pfok (a b ini : Nat) (w : Value) : Bool := match vwCl[a]?, ev_tys[a]? with
  | some c, some ty => decide (b < c.2.2 ∧ ((c.2.1 b).2.2.2 = false ∨ ini = a + 1) ∧ ev_pok (ty b) w = true)
  | _, _ => false
section FWR
variable {sc : Option (List Int32)} {rt ini mx na rc fr lo mc ms : Nat} {t : ev_T} {pc : Nat} {Lc : ev_L} {stc : List Value} {hc : ev_H} {kc ks : Nat} {Q : Option Value → ev_H → Prop}
variable {pp0 a b pp : Nat} {i : Instr} {v : Value} {l : List (Nat × Value)}
theorem f_pf {q k : Nat} {fs : List Value} {w : Value} (hf : ev_f t pc = some (pp0, .putfield k, a, b, pp, v)) (hq : hc[q]? = some (.inr (.inr (a, fs)))) (hb : b < fs.length) (hok : f_pfok a b ini w = true) (h : x_W sc (rt, ini, mx, na, rc, fr, lo, mc, ms, t) (pc + 3) Lc stc (hc.set q (.inr (.inr (a, fs.set b w)))) kc ks Q) : x_W sc (rt, ini, mx, na, rc, fr, lo, mc, ms, t) pc Lc (w :: .ref q :: stc) hc kc ks Q :=
  x_W_h hf (st' := stc) (hc' := hc.set q (.inr (.inr (a, fs.set b w)))) (by
    unfold f_pfok at hok
    unfold ev_h
    dsimp only
    rw [hq]
    dsimp only
    rw [Nat.beq_refl]
    dsimp only
    rw [if_pos hb]
    split at hok
    · rename_i c ty h1 h2
      rw [h1, h2]
      dsimp only
      rw [if_pos (of_decide_eq_true hok)]
    · cases hok) h
theorem f_in_ok {j : Int} {n : Nat} (j1 : 0 ≤ j) (j2 : j ≤ 2147483647) (j3 : j.toNat < n) : ev_inn (Int32.ofInt j) n = true ∧ (Int32.ofInt j).toNatClampNeg = j.toNat := by
  have ej : (Int32.ofInt j).toInt = j := x_i32 (by omega) j2
  have en : (Int32.ofInt j).toNatClampNeg = j.toNat := by
    show ((Int32.ofInt j).toInt).toNat = j.toNat
    rw [ej]
  refine ⟨?_, en⟩
  unfold ev_inn
  rw [en]
  have : ¬ (Int32.ofInt j < 0) := by
    rw [Int32.lt_iff_toInt_lt, ej]
    have e0 : (0 : Int32).toInt = 0 := rfl
    omega
  simp [this, j3]
theorem f_ias {q : Nat} {xs : List Int32} {x : Int32} {j : Int} (hf : ev_f t pc = some (pp0, .iastore, a, b, pp, v)) (hq : hc[q]? = some (.inl (0, xs))) (j1 : 0 ≤ j) (j2 : j ≤ 2147483647) (j3 : j.toNat < xs.length) (h : x_W sc (rt, ini, mx, na, rc, fr, lo, mc, ms, t) (pc + 1) Lc stc (hc.set q (.inl (0, xs.set j.toNat x))) kc ks Q) : x_W sc (rt, ini, mx, na, rc, fr, lo, mc, ms, t) pc Lc (.int x :: fi j :: .ref q :: stc) hc kc ks Q :=
  x_W_h hf (st' := stc) (hc' := hc.set q (.inl (0, xs.set j.toNat x))) (by
    obtain ⟨hi, en⟩ := f_in_ok (n := xs.length) j1 j2 j3
    unfold ev_h
    dsimp only
    rw [hq]
    show (match ev_inn (Int32.ofInt j) xs.length with
      | true => some (stc, hc.set q (.inl (0, xs.set (Int32.ofInt j).toNatClampNeg x)))
      | false => none) = _
    rw [hi, en]) h
theorem f_cas {q : Nat} {xs : List Int32} {x : Int32} {j : Int} (hf : ev_f t pc = some (pp0, .castore, a, b, pp, v)) (hq : hc[q]? = some (.inl (1, xs))) (j1 : 0 ≤ j) (j2 : j ≤ 2147483647) (j3 : j.toNat < xs.length) (h : x_W sc (rt, ini, mx, na, rc, fr, lo, mc, ms, t) (pc + 1) Lc stc (hc.set q (.inl (1, xs.set j.toNat (vp_nar .char x)))) kc ks Q) : x_W sc (rt, ini, mx, na, rc, fr, lo, mc, ms, t) pc Lc (.int x :: fi j :: .ref q :: stc) hc kc ks Q :=
  x_W_h hf (st' := stc) (hc' := hc.set q (.inl (1, xs.set j.toNat (vp_nar .char x)))) (by
    obtain ⟨hi, en⟩ := f_in_ok (n := xs.length) j1 j2 j3
    unfold ev_h
    dsimp only
    rw [hq]
    show (match ev_inn (Int32.ofInt j) xs.length with
      | true => some (stc, hc.set q (.inl (1, xs.set (Int32.ofInt j).toNatClampNeg (vp_nar .char x))))
      | false => none) = _
    rw [hi, en]) h
theorem f_alen {q k : Nat} {xs : List Int32} {n : Int} (hf : ev_f t pc = some (pp0, .arraylength, a, b, pp, v)) (hq : hc[q]? = some (.inl (k, xs))) (hk : k < 3) (hn : (xs.length : Int) = n) (h : x_W sc (rt, ini, mx, na, rc, fr, lo, mc, ms, t) (pc + 1) Lc (fi n :: stc) hc kc ks Q) : x_W sc (rt, ini, mx, na, rc, fr, lo, mc, ms, t) pc Lc (.ref q :: stc) hc kc ks Q :=
  x_W_h hf (st' := fi n :: stc) (hc' := hc) (by
    unfold ev_h
    dsimp only
    rw [hq]
    dsimp only
    rw [if_pos hk, ← hn]
    rfl) h
theorem f_i2c {x : Int} (hf : ev_f t pc = some (pp0, .i2c, a, b, pp, v)) (h : x_W sc (rt, ini, mx, na, rc, fr, lo, mc, ms, t) (pc + 1) Lc (.int ((Int32.ofInt x).toUInt32 % 65536).toInt32 :: stc) hc kc ks Q) : x_W sc (rt, ini, mx, na, rc, fr, lo, mc, ms, t) pc Lc (fi x :: stc) hc kc ks Q := x_W_s hf (st' := .int ((Int32.ofInt x).toUInt32 % 65536).toInt32 :: stc) rfl h
end FWR
theorem f_nar {x : Int} (x1 : 0 ≤ x) (x2 : x ≤ 65535) : ((Int32.ofInt x).toUInt32 % 65536).toInt32 = Int32.ofInt x := by
  apply Int32.toInt_inj.mp
  rw [x_i2c_mod, x_i32 (by omega) (by omega)]
  have h : (Int32.ofInt x).toUInt32.toNat = x.toNat := by
    have h1 : (Int32.ofInt x).toBitVec.toNat = x.toNat := by
      have h2 := x_i32 (a := x) (by omega) (by omega)
      have h3 : (Int32.ofInt x).toInt = (Int32.ofInt x).toBitVec.toInt := rfl
      rw [h3, BitVec.toInt_eq_toNat_cond] at h2
      split at h2 <;> omega
    exact h1
  rw [h]
  omega
theorem f_set_ne {hc : ev_H} {q q' : Nat} {c : ev_C} {r : Option ev_C} (hn : q ≠ q') (h : hc[q']? = r) : (hc.set q c)[q']? = r := by rw [List.getElem?_set_ne hn]; exact h
theorem f_set_eq {hc : ev_H} {q : Nat} {c c0 : ev_C} (h : hc[q]? = some c0) : (hc.set q c)[q]? = some c := by rw [List.getElem?_set_self (List.getElem?_eq_some_iff.mp h).1]
theorem f_len {hc : ev_H} {q a k : Nat} {fs : List Value} {w : Value} (h : fs[k]? = some w) : k < fs.length := (List.getElem?_eq_some_iff.mp h).1
/-- a contract, and what it answers -/
theorem f_Mc {g : yQ} {a : Nat} {ct : yCt} {R : ev_R} (hR : ev_ms a = some R) (hM : y_Mca g a ct) {hc : ev_H} {as : List Value} (hin : y_in g hc) (hargs : y_args ct.1 as) : ∃ r hc', y_ret ct.2.1 r ∧ y_in g hc' ∧ y_un ct.2.2 hc hc' ∧ f_M a as hc r hc' := by
  obtain ⟨n, r, hc', e, e1, e2, e3⟩ := hM R hR hc as hin hargs
  refine ⟨r, hc', e1, e2, e3, fun R' hR' => ?_⟩
  rw [hR] at hR'
  cases hR'
  exact ⟨n, e⟩
theorem f_Mu {g : yQ} {a : Nat} {ct : yCt} {R : ev_R} (hR : ev_ms a = some R) (hM : y_Mca g a ct) {hc : ev_H} {as : List Value} (hin : y_in g hc) (hargs : y_args ct.1 as) {r : Option Value} {hc' : ev_H} (h : f_M a as hc r hc') : y_in g hc' ∧ y_un ct.2.2 hc hc' := by
  obtain ⟨r', hc'', -, e2, e3, e4⟩ := f_Mc hR hM hin hargs
  obtain ⟨-, rfl⟩ := f_M.un hR h e4
  exact ⟨e2, e3⟩
def f_nc (md : yMd) (q i : Nat) : Bool := md.all (fun e => !(Nat.beq e.1 q && (Nat.ble e.2.1 i && Nat.ble i e.2.2)))
theorem f_nc_ok {md : yMd} {q i : Nat} (h : f_nc md q i = true) : ¬ y_cov md q i := fun ⟨e, he, e1, e2, e3⟩ => by
  have := List.all_eq_true.mp h e he
  rw [show Nat.beq e.1 q = true by rw [e1]; exact Nat.beq_refl q, Nat.ble_eq_true_of_le e2, Nat.ble_eq_true_of_le e3] at this
  cases this
theorem f_get_o {hc : ev_H} {q a k : Nat} {fs : List Value} (h : hc[q]? = some (.inr (.inr (a, fs)))) : y_get hc q k = fs[k]? := by unfold y_get; rw [h]
theorem f13 {hc : ev_H} {fs : List Value} (q1 : hc[1]? = some (.inr (.inr (8, fs)))) {len : Int} (w1 : fs[1]? = some (fi len)) : f_M 13 [.ref 1] hc (some (fi (len))) hc := f_M_of (R := ev_r13) rfl (by
  have hL : f_L (lv_args 0 [.ref 1]) [(0, .ref 1)] := f_L_of rfl
  generalize lv_args 0 [.ref 1] = L at hL
  show x_W none (1, 0, 1, 0, 9, 0, 0, 0, 0, ev_t13) 0 L [] hc 0 0 _
  refine f_aln 0 rfl hL rfl ?_
  refine f_gf rfl q1 w1 ?_
  exact f_ret1 rfl ⟨rfl, rfl⟩)
theorem f12_full {hc : ev_H} {fs : List Value} (q1 : hc[1]? = some (.inr (.inr (8, fs)))) (w0 : fs[0]? = some (.ref 2)) {len : Int} (w1 : fs[1]? = some (fi len)) {xs : List Int32} (q2 : hc[2]? = some (.inl (1, xs))) (l2 : xs.length = 40) (len1 : 0 ≤ len) (len2 : len ≤ 40) (hx : len = 40) {x : Int} : f_M 12 [.ref 1, fi (x)] hc (some (fi (0))) hc := f_M_of (R := ev_r12) rfl (by
  have hL : f_L (lv_args 0 [.ref 1, fi (x)]) [(0, .ref 1), (1, fi (x))] := f_L_of rfl
  generalize lv_args 0 [.ref 1, fi (x)] = L at hL
  show x_W none (2, 0, 2, 1, 9, 0, 0, 0, 0, ev_t12) 0 L [] hc 0 0 _
  refine f_aln 0 rfl hL rfl ?_
  refine f_gf rfl q1 w1 ?_
  refine f_if rfl (by omega) (fun c => absurd (show len < 0 from c) (by omega)) (fun c1 => ?_)
  have c1 : ¬ ((len : Int) < (0 : Int)) := c1
  refine f_aln 0 rfl hL rfl ?_
  refine f_gf rfl q1 w1 ?_
  refine f_aln 0 rfl hL rfl ?_
  refine f_gf rfl q1 w0 ?_
  refine f_alen (n := 40) rfl q2 (by decide) (by rw [l2]; rfl) ?_
  refine f_ic rfl (by omega) (by omega) (fun c => absurd (show len < 40 from c) (by omega)) (fun c2 => ?_)
  have c2 : ¬ ((len : Int) < (40 : Int)) := c2
  refine f_s [fi (0)] rfl rfl ?_
  exact f_ret2 rfl (Or.inl rfl) ⟨rfl, rfl⟩)
theorem f12_ok {hc : ev_H} {fs : List Value} (q1 : hc[1]? = some (.inr (.inr (8, fs)))) (w0 : fs[0]? = some (.ref 2)) {len : Int} (w1 : fs[1]? = some (fi len)) {xs : List Int32} (q2 : hc[2]? = some (.inl (1, xs))) (l2 : xs.length = 40) (len1 : 0 ≤ len) (len2 : len ≤ 40) (hx : len < 40) {x : Int} : f_M 12 [.ref 1, fi (x)] hc (some (fi (1))) ((hc.set 2 (.inl (1, xs.set len.toNat (vp_nar .char (Int32.ofInt x))))).set 1 (.inr (.inr (8, fs.set 1 (fi (len + 1)))))) := f_M_of (R := ev_r12) rfl (by
  have hL : f_L (lv_args 0 [.ref 1, fi (x)]) [(0, .ref 1), (1, fi (x))] := f_L_of rfl
  generalize lv_args 0 [.ref 1, fi (x)] = L at hL
  show x_W none (2, 0, 2, 1, 9, 0, 0, 0, 0, ev_t12) 0 L [] hc 0 0 _
  refine f_aln 0 rfl hL rfl ?_
  refine f_gf rfl q1 w1 ?_
  refine f_if rfl (by omega) (fun c => absurd (show len < 0 from c) (by omega)) (fun c1 => ?_)
  have c1 : ¬ ((len : Int) < (0 : Int)) := c1
  refine f_aln 0 rfl hL rfl ?_
  refine f_gf rfl q1 w1 ?_
  refine f_aln 0 rfl hL rfl ?_
  refine f_gf rfl q1 w0 ?_
  refine f_alen (n := 40) rfl q2 (by decide) (by rw [l2]; rfl) ?_
  refine f_ic rfl (by omega) (by omega) (fun c2 => ?_) (fun c => absurd (show len < 40 by omega) c)
  have c2 : (len : Int) < (40 : Int) := c2
  refine f_aln 0 rfl hL rfl ?_
  refine f_gf rfl q1 w0 ?_
  refine f_aln 0 rfl hL rfl ?_
  refine f_gf rfl q1 w1 ?_
  refine f_iln 1 rfl hL rfl ?_
  refine f_cas rfl q2 len1 (by omega) (by rw [l2]; omega) ?_
  have q1b := f_set_ne (c := .inl (1, xs.set len.toNat (vp_nar .char (Int32.ofInt x)))) (show 2 ≠ 1 by decide) q1
  refine f_aln 0 rfl hL rfl ?_
  refine f_s [.ref 1, .ref 1] rfl rfl ?_
  refine f_gf rfl q1b w1 ?_
  refine f_s [fi (1), fi (len), .ref 1] rfl rfl ?_
  refine f_iadd rfl ?_
  refine f_pf rfl q1b (f_len (hc := hc) (q := 0) (a := 0) w1) rfl ?_
  refine f_s [fi (1)] rfl rfl ?_
  exact f_ret2 rfl (Or.inr rfl) ⟨rfl, rfl⟩)
theorem f14_out {hc : ev_H} {fs : List Value} (q1 : hc[1]? = some (.inr (.inr (8, fs)))) (w0 : fs[0]? = some (.ref 2)) {len : Int} (w1 : fs[1]? = some (fi len)) {xs : List Int32} (q2 : hc[2]? = some (.inl (1, xs))) (l2 : xs.length = 40) (len1 : 0 ≤ len) (len2 : len ≤ 40) {gs : List Value} (q0 : hc[0]? = some (.inr (.inr (9, gs)))) (g0 : gs[0]? = some (.ref 1)) {x : Int} (x1 : -2147483648 ≤ x) (x2 : x ≤ 2147483647) (hx : ¬ (0 ≤ x ∧ x ≤ 255)) : f_M 14 [.ref 0, fi (x)] hc (some (fi (-2))) hc := f_M_of (R := ev_r14) rfl (by
  have hL : f_L (lv_args 0 [.ref 0, fi (x)]) [(0, .ref 0), (1, fi (x))] := f_L_of rfl
  generalize lv_args 0 [.ref 0, fi (x)] = L at hL
  show x_W none (1, 0, 2, 1, 10, 1, 21, 0, 0, ev_t14) 0 L [] hc 0 0 _
  refine f_iln 1 rfl hL rfl ?_
  refine f_if rfl (by omega) (fun c1 => ?_) (fun c1 => ?_)
  · have c1 : (x : Int) < (0 : Int) := c1
    refine f_bipush (n := -2) rfl (by decide) ?_
    exact f_ret1 rfl ⟨rfl, rfl⟩
  · have c1 : ¬ ((x : Int) < (0 : Int)) := c1
    refine f_iln 1 rfl hL rfl ?_
    refine f_sipush (n := 255) rfl (by decide) ?_
    refine f_ic rfl (by omega) (by omega) (fun c => absurd (show x ≤ 255 from c) (by omega)) (fun c2 => ?_)
    have c2 : ¬ ((x : Int) ≤ (255 : Int)) := c2
    refine f_bipush (n := -2) rfl (by decide) ?_
    exact f_ret1 rfl ⟨rfl, rfl⟩)
theorem f14_full {hc : ev_H} {fs : List Value} (q1 : hc[1]? = some (.inr (.inr (8, fs)))) (w0 : fs[0]? = some (.ref 2)) {len : Int} (w1 : fs[1]? = some (fi len)) {xs : List Int32} (q2 : hc[2]? = some (.inl (1, xs))) (l2 : xs.length = 40) (len1 : 0 ≤ len) (len2 : len ≤ 40) {gs : List Value} (q0 : hc[0]? = some (.inr (.inr (9, gs)))) (g0 : gs[0]? = some (.ref 1)) {x : Int} (x1 : -2147483648 ≤ x) (x2 : x ≤ 2147483647) (hx : 0 ≤ x ∧ x ≤ 255) (hl : len = 40) : f_M 14 [.ref 0, fi (x)] hc (some (fi (-4))) hc := f_M_of (R := ev_r14) rfl (by
  have hL : f_L (lv_args 0 [.ref 0, fi (x)]) [(0, .ref 0), (1, fi (x))] := f_L_of rfl
  generalize lv_args 0 [.ref 0, fi (x)] = L at hL
  show x_W none (1, 0, 2, 1, 10, 1, 21, 0, 0, ev_t14) 0 L [] hc 0 0 _
  refine f_iln 1 rfl hL rfl ?_
  refine f_if rfl (by omega) (fun c => absurd (show x < 0 from c) (by omega)) (fun c1 => ?_)
  have c1 : ¬ ((x : Int) < (0 : Int)) := c1
  refine f_iln 1 rfl hL rfl ?_
  refine f_sipush (n := 255) rfl (by decide) ?_
  refine f_ic rfl (by omega) (by omega) (fun c2 => ?_) (fun c => absurd hx.2 c)
  have c2 : (x : Int) ≤ (255 : Int) := c2
  refine f_aln 0 rfl hL rfl ?_
  refine f_gf rfl q0 g0 ?_
  refine f_iln 1 rfl hL rfl ?_
  refine f_i2c rfl ?_
  rw [f_nar hx.1 (by omega)]
  refine f_k1 (f12_full q1 w0 w1 q2 l2 len1 len2 hl (x := x)) rfl rfl rfl (f_ar_v q1 rfl) rfl ?_
  refine f_if rfl (by omega) (fun c3 => ?_) (fun c => absurd rfl c)
  have c3 : (0 : Int) = (0 : Int) := c3
  refine f_bipush (n := -4) rfl (by decide) ?_
  exact f_ret1 rfl ⟨rfl, rfl⟩)
theorem f14_ok {hc : ev_H} {fs : List Value} (q1 : hc[1]? = some (.inr (.inr (8, fs)))) (w0 : fs[0]? = some (.ref 2)) {len : Int} (w1 : fs[1]? = some (fi len)) {xs : List Int32} (q2 : hc[2]? = some (.inl (1, xs))) (l2 : xs.length = 40) (len1 : 0 ≤ len) (len2 : len ≤ 40) {gs : List Value} (q0 : hc[0]? = some (.inr (.inr (9, gs)))) (g0 : gs[0]? = some (.ref 1)) {x : Int} (x1 : -2147483648 ≤ x) (x2 : x ≤ 2147483647) (hx : 0 ≤ x ∧ x ≤ 255) (hl : len < 40) : f_M 14 [.ref 0, fi (x)] hc (some (fi (len + 1))) ((hc.set 2 (.inl (1, xs.set len.toNat (vp_nar .char (Int32.ofInt x))))).set 1 (.inr (.inr (8, fs.set 1 (fi (len + 1)))))) := f_M_of (R := ev_r14) rfl (by
  have hL : f_L (lv_args 0 [.ref 0, fi (x)]) [(0, .ref 0), (1, fi (x))] := f_L_of rfl
  generalize lv_args 0 [.ref 0, fi (x)] = L at hL
  show x_W none (1, 0, 2, 1, 10, 1, 21, 0, 0, ev_t14) 0 L [] hc 0 0 _
  refine f_iln 1 rfl hL rfl ?_
  refine f_if rfl (by omega) (fun c => absurd (show x < 0 from c) (by omega)) (fun c1 => ?_)
  have c1 : ¬ ((x : Int) < (0 : Int)) := c1
  refine f_iln 1 rfl hL rfl ?_
  refine f_sipush (n := 255) rfl (by decide) ?_
  refine f_ic rfl (by omega) (by omega) (fun c2 => ?_) (fun c => absurd hx.2 c)
  have c2 : (x : Int) ≤ (255 : Int) := c2
  refine f_aln 0 rfl hL rfl ?_
  refine f_gf rfl q0 g0 ?_
  refine f_iln 1 rfl hL rfl ?_
  refine f_i2c rfl ?_
  rw [f_nar hx.1 (by omega)]
  refine f_k1 (f12_ok q1 w0 w1 q2 l2 len1 len2 hl (x := x)) rfl rfl rfl (f_ar_v q1 rfl) rfl ?_
  refine f_if rfl (by omega) (fun c => absurd c (show ¬ (1 : Int) = 0 by decide)) (fun c3 => ?_)
  have c3 : ¬ ((1 : Int) = (0 : Int)) := c3
  have q0b := f_set_ne (c := .inr (.inr (8, fs.set 1 (fi (len + 1))))) (show 1 ≠ 0 by decide) (f_set_ne (c := .inl (1, xs.set len.toNat (vp_nar .char (Int32.ofInt x)))) (show 2 ≠ 0 by decide) q0)
  have q1b := f_set_eq (c := .inr (.inr (8, fs.set 1 (fi (len + 1))))) (f_set_ne (c := .inl (1, xs.set len.toNat (vp_nar .char (Int32.ofInt x)))) (show 2 ≠ 1 by decide) q1)
  refine f_aln 0 rfl hL rfl ?_
  refine f_gf rfl q0b g0 ?_
  refine f_k1 (f13 q1b (len := len + 1) (by rw [List.getElem?_set_self (f_len (hc := hc) (q := 0) (a := 0) w1)])) rfl rfl rfl (f_ar_v q1b rfl) rfl ?_
  refine f_goto rfl ?_
  exact f_ret1 rfl ⟨rfl, rfl⟩)
theorem f16_out {hc : ev_H} {fs : List Value} (q : hc[55]? = some (.inr (.inr (10, fs)))) (w12 : fs[12]? = some (.ref 64)) {len : Int} (w13 : fs[13]? = some (fi len)) {xs : List Int32} (q64 : hc[64]? = some (.inl (0, xs))) (l64 : xs.length = 40) (len1 : 0 ≤ len) (len2 : len ≤ 40) {x : Int} (x1 : -2147483648 ≤ x) (x2 : x ≤ 2147483647) (hx : ¬ (0 ≤ x ∧ x ≤ 255)) : f_M 16 [.ref 55, fi (x)] hc (some (fi (-2))) hc := f_M_of (R := ev_r16) rfl (by
  have hL : f_L (lv_args 0 [.ref 55, fi (x)]) [(0, .ref 55), (1, fi (x))] := f_L_of rfl
  generalize lv_args 0 [.ref 55, fi (x)] = L at hL
  show x_W none (1, 0, 2, 1, 11, 1, 25, 0, 0, ev_t16) 0 L [] hc 0 0 _
  have hI := f15 hc x 0 255 (by omega) (by omega) (by omega)
  rw [if_neg hx] at hI
  refine f_iln 1 rfl hL rfl ?_
  refine f_i2l rfl (by omega) ?_
  refine f_s [fl (0), fl (x)] rfl rfl ?_
  refine f_ldc2 (255) rfl rfl ?_
  refine f_k1 hI rfl rfl rfl rfl rfl ?_
  refine f_if rfl (by omega) (fun c => absurd rfl c) (fun c1 => ?_)
  have c1 : ¬ (¬ (0 : Int) = (0 : Int)) := c1
  refine f_bipush (n := -2) rfl (by decide) ?_
  exact f_ret1 rfl ⟨rfl, rfl⟩)
theorem f16_full {hc : ev_H} {fs : List Value} (q : hc[55]? = some (.inr (.inr (10, fs)))) (w12 : fs[12]? = some (.ref 64)) {len : Int} (w13 : fs[13]? = some (fi len)) {xs : List Int32} (q64 : hc[64]? = some (.inl (0, xs))) (l64 : xs.length = 40) (len1 : 0 ≤ len) (len2 : len ≤ 40) {x : Int} (x1 : -2147483648 ≤ x) (x2 : x ≤ 2147483647) (hx : 0 ≤ x ∧ x ≤ 255) (hl : len = 40) : f_M 16 [.ref 55, fi (x)] hc (some (fi (-4))) hc := f_M_of (R := ev_r16) rfl (by
  have hL : f_L (lv_args 0 [.ref 55, fi (x)]) [(0, .ref 55), (1, fi (x))] := f_L_of rfl
  generalize lv_args 0 [.ref 55, fi (x)] = L at hL
  show x_W none (1, 0, 2, 1, 11, 1, 25, 0, 0, ev_t16) 0 L [] hc 0 0 _
  have hI := f15 hc x 0 255 (by omega) (by omega) (by omega)
  rw [if_pos hx] at hI
  refine f_iln 1 rfl hL rfl ?_
  refine f_i2l rfl (by omega) ?_
  refine f_s [fl (0), fl (x)] rfl rfl ?_
  refine f_ldc2 (255) rfl rfl ?_
  refine f_k1 hI rfl rfl rfl rfl rfl ?_
  refine f_if rfl (by omega) (fun c1 => ?_) (fun c => absurd (show ¬ (1 : Int) = 0 by decide) c)
  have c1 : ¬ (1 : Int) = (0 : Int) := c1
  refine f_aln 0 rfl hL rfl ?_
  refine f_gf rfl q w13 ?_
  refine f_bipush (n := 40) rfl (by decide) ?_
  refine f_ic rfl (by omega) (by omega) (fun c => absurd hl c) (fun c2 => ?_)
  have c2 : ¬ (¬ (len : Int) = (40 : Int)) := c2
  refine f_bipush (n := -4) rfl (by decide) ?_
  exact f_ret1 rfl ⟨rfl, rfl⟩)
theorem f16_ok {hc : ev_H} {fs : List Value} (q : hc[55]? = some (.inr (.inr (10, fs)))) (w12 : fs[12]? = some (.ref 64)) {len : Int} (w13 : fs[13]? = some (fi len)) {xs : List Int32} (q64 : hc[64]? = some (.inl (0, xs))) (l64 : xs.length = 40) (len1 : 0 ≤ len) (len2 : len ≤ 40) {x : Int} (x1 : -2147483648 ≤ x) (x2 : x ≤ 2147483647) (hx : 0 ≤ x ∧ x ≤ 255) (hl : len < 40) : f_M 16 [.ref 55, fi (x)] hc (some (fi (len + 1))) ((hc.set 64 (.inl (0, xs.set len.toNat (Int32.ofInt x)))).set 55 (.inr (.inr (10, fs.set 13 (fi (len + 1)))))) := f_M_of (R := ev_r16) rfl (by
  have hL : f_L (lv_args 0 [.ref 55, fi (x)]) [(0, .ref 55), (1, fi (x))] := f_L_of rfl
  generalize lv_args 0 [.ref 55, fi (x)] = L at hL
  show x_W none (1, 0, 2, 1, 11, 1, 25, 0, 0, ev_t16) 0 L [] hc 0 0 _
  have hI := f15 hc x 0 255 (by omega) (by omega) (by omega)
  rw [if_pos hx] at hI
  refine f_iln 1 rfl hL rfl ?_
  refine f_i2l rfl (by omega) ?_
  refine f_s [fl (0), fl (x)] rfl rfl ?_
  refine f_ldc2 (255) rfl rfl ?_
  refine f_k1 hI rfl rfl rfl rfl rfl ?_
  refine f_if rfl (by omega) (fun c1 => ?_) (fun c => absurd (show ¬ (1 : Int) = 0 by decide) c)
  have c1 : ¬ (1 : Int) = (0 : Int) := c1
  refine f_aln 0 rfl hL rfl ?_
  refine f_gf rfl q w13 ?_
  refine f_bipush (n := 40) rfl (by decide) ?_
  refine f_ic rfl (by omega) (by omega) (fun c2 => ?_) (fun c => absurd (show ¬ len = 40 by omega) c)
  have c2 : ¬ (len : Int) = (40 : Int) := c2
  refine f_aln 0 rfl hL rfl ?_
  refine f_gf rfl q w12 ?_
  refine f_aln 0 rfl hL rfl ?_
  refine f_gf rfl q w13 ?_
  refine f_iln 1 rfl hL rfl ?_
  refine f_ias rfl q64 len1 (by omega) (by rw [l64]; omega) ?_
  have qb := f_set_ne (c := .inl (0, xs.set len.toNat (Int32.ofInt x))) (show 64 ≠ 55 by decide) q
  refine f_aln 0 rfl hL rfl ?_
  refine f_s [.ref 55, .ref 55] rfl rfl ?_
  refine f_gf rfl qb w13 ?_
  refine f_s [fi (1), fi (len), .ref 55] rfl rfl ?_
  refine f_iadd rfl ?_
  refine f_pf rfl qb (f_len (hc := hc) (q := 0) (a := 0) w13) rfl ?_
  have qc := f_set_eq (c := .inr (.inr (10, fs.set 13 (fi (len + 1))))) qb
  refine f_aln 0 rfl hL rfl ?_
  refine f_gf rfl qc (by rw [List.getElem?_set_self (f_len (hc := hc) (q := 0) (a := 0) w13)]) ?_
  exact f_ret1 rfl ⟨rfl, rfl⟩)
theorem f17 {hc : ev_H} {fs : List Value} (q1 : hc[1]? = some (.inr (.inr (8, fs)))) {len : Int} (w1 : fs[1]? = some (fi len)) : f_M 17 [.ref 1] hc (some (fi (len))) (hc.set 1 (.inr (.inr (8, fs.set 1 (fi 0))))) := f_M_of (R := ev_r17) rfl (by
  have hL : f_L (lv_args 0 [.ref 1]) [(0, .ref 1)] := f_L_of rfl
  generalize lv_args 0 [.ref 1] = L at hL
  show x_W none (1, 0, 2, 0, 9, 0, 0, 0, 0, ev_t17) 0 L [] hc 0 0 _
  refine f_aln 0 rfl hL rfl ?_
  refine f_gf rfl q1 w1 ?_
  refine f_istn [(1, fi (len)), (0, .ref 1)] rfl (by decide) hL rfl (fun L1 hL1 => ?_)
  refine f_aln 1 rfl hL1 rfl ?_
  refine f_s [fi (0), .ref 1] rfl rfl ?_
  refine f_pf rfl q1 (f_len (hc := hc) (q := 0) (a := 0) w1) rfl ?_
  refine f_iln 0 rfl hL1 rfl ?_
  exact f_ret1 rfl ⟨rfl, rfl⟩)
theorem f18 {hc : ev_H} {fs : List Value} (q1 : hc[1]? = some (.inr (.inr (8, fs)))) {len : Int} (w1 : fs[1]? = some (fi len)) {gs : List Value} (q0 : hc[0]? = some (.inr (.inr (9, gs)))) (g0 : gs[0]? = some (.ref 1)) : f_M 18 [.ref 0] hc (some (fi (len))) (hc.set 1 (.inr (.inr (8, fs.set 1 (fi 0))))) := f_M_of (R := ev_r18) rfl (by
  have hL : f_L (lv_args 0 [.ref 0]) [(0, .ref 0)] := f_L_of rfl
  generalize lv_args 0 [.ref 0] = L at hL
  show x_W none (1, 0, 1, 0, 10, 1, 21, 0, 0, ev_t18) 0 L [] hc 0 0 _
  refine f_aln 0 rfl hL rfl ?_
  refine f_gf rfl q0 g0 ?_
  refine f_k1 (f17 q1 w1) rfl rfl rfl (f_ar_v q1 rfl) rfl ?_
  exact f_ret1 rfl ⟨rfl, rfl⟩)
theorem f19 {hc : ev_H} {fs : List Value} (q : hc[55]? = some (.inr (.inr (10, fs)))) {len : Int} (w13 : fs[13]? = some (fi len)) : f_M 19 [.ref 55] hc (some (fi (len))) (hc.set 55 (.inr (.inr (10, fs.set 13 (fi 0))))) := f_M_of (R := ev_r19) rfl (by
  have hL : f_L (lv_args 0 [.ref 55]) [(0, .ref 55)] := f_L_of rfl
  generalize lv_args 0 [.ref 55] = L at hL
  show x_W none (1, 0, 2, 0, 11, 0, 0, 0, 0, ev_t19) 0 L [] hc 0 0 _
  refine f_aln 0 rfl hL rfl ?_
  refine f_gf rfl q w13 ?_
  refine f_istn [(1, fi (len)), (0, .ref 55)] rfl (by decide) hL rfl (fun L1 hL1 => ?_)
  refine f_aln 1 rfl hL1 rfl ?_
  refine f_s [fi (0), .ref 55] rfl rfl ?_
  refine f_pf rfl q (f_len (hc := hc) (q := 0) (a := 0) w13) rfl ?_
  refine f_iln 0 rfl hL1 rfl ?_
  exact f_ret1 rfl ⟨rfl, rfl⟩)
