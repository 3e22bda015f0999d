/-! the law: its rows, what holds at its loop's head -/
section GRO
variable {xs : List Int32} {rt ini mx na rc fr lo mc ms : Nat} {t : ev_T} {pc : Nat} {Lc : ev_L} {stc : List Value} {hc : ev_H} {kc ks : Nat} {Q : Option Value → ev_H → Prop}
variable {pp0 a b pp : Nat} {i : Instr} {v : Value} {l : List (Nat × Value)}
theorem g_alr {k : Fin 4} {x : Nat} (j : Nat) (hf : ev_f t pc = some (pp0, .aload_n k, a, b, pp, v)) (hL : f_L Lc l) (hj : l[j]? = some (k.val, .retAddr x)) (h : x_W (some xs) (rt, ini, mx, na, rc, fr, lo, mc, ms, t) (pc + 1) Lc (.retAddr x :: stc) hc kc ks Q) : x_W (some xs) (rt, ini, mx, na, rc, fr, lo, mc, ms, t) pc Lc stc hc kc ks Q :=
  x_W_l hf (st' := .retAddr x :: stc) (L' := Lc) (by unfold ev_l; dsimp only; rw [hL.at j hj]) h
theorem g_sia {x : Int32} {j : Int} (hf : ev_f t pc = some (pp0, .iaload, a, b, pp, v)) (j1 : 0 ≤ j) (j2 : j ≤ 2147483647) (hx : xs[j.toNat]? = some x) (h : x_W (some xs) (rt, ini, mx, na, rc, fr, lo, mc, ms, t) (pc + 1) Lc (.int x :: stc) hc kc ks Q) : x_W (some xs) (rt, ini, mx, na, rc, fr, lo, mc, ms, t) pc Lc (fi j :: .retAddr 0 :: stc) hc kc ks Q :=
  x_W_h hf (st' := .int x :: stc) (hc' := hc) (by
    obtain ⟨hi, en⟩ := f_in_ok (n := xs.length) j1 j2 (List.getElem?_eq_some_iff.mp hx).1
    show (match ev_inn (Int32.ofInt j) xs.length with
      | true => some (Value.int (xs.getD (Int32.ofInt j).toNatClampNeg 0) :: stc, hc)
      | false => none) = _
    rw [hi, en, List.getD_eq_getElem?_getD, hx]
    rfl) h
theorem g_slen {n : Int} (hf : ev_f t pc = some (pp0, .arraylength, a, b, pp, v)) (hn : (xs.length : Int) = n) (h : x_W (some xs) (rt, ini, mx, na, rc, fr, lo, mc, ms, t) (pc + 1) Lc (fi n :: stc) hc kc ks Q) : x_W (some xs) (rt, ini, mx, na, rc, fr, lo, mc, ms, t) pc Lc (.retAddr 0 :: stc) hc kc ks Q :=
  x_W_h hf (st' := fi n :: stc) (hc' := hc) (by
    subst hn
    rfl) h
theorem g_astn {k : Fin 4} {x : Nat} (l' : List (Nat × Value)) (hf : ev_f t pc = some (pp0, .astore_n k, a, b, pp, v)) (hk : k.val < mx) (hL : f_L Lc l) (hl : f_up l k.val (.ref x) = l') (h : ∀ L', f_L L' l' → x_W (some xs) (rt, ini, mx, na, rc, fr, lo, mc, ms, t) (pc + 1) L' stc hc kc ks Q) : x_W (some xs) (rt, ini, mx, na, rc, fr, lo, mc, ms, t) pc Lc (.ref x :: stc) hc kc ks Q :=
  x_W_l hf (st' := stc) (L' := ev_s1 Lc k.val (.ref x)) (by unfold ev_l; dsimp only; rw [if_pos hk]) (h _ (by rw [← hl]; exact hL.st _ _))
end GRO
theorem g_and31 (z : Int) : ∃ d : Int, 0 ≤ d ∧ d ≤ 31 ∧ Int32.ofInt z &&& Int32.ofInt 31 = Int32.ofInt d := by
  have h := x_andle (x := Int32.ofInt z) (y := Int32.ofInt 31) (by decide)
  have e : (Int32.ofInt 31).toInt = 31 := by decide
  exact ⟨(Int32.ofInt z &&& Int32.ofInt 31).toInt, h.1, by omega, (Int32.ofInt_toInt _).symm⟩
theorem f_rAl {z : Int64} : y_rA (1, Int.negSucc 9223372036854775807, Int.ofNat 9223372036854775807, false) (.long z) := ⟨z, rfl, Or.inl ⟨z.le_toInt, by have := z.toInt_lt; show _ ≤ (9223372036854775807 : Int); omega⟩⟩
theorem f_reti {e : Int × Int × Bool} {r : Option Value} (h : y_ret (some (0, e)) r) : ∃ w : Int32, r = some (.int w) := by
  obtain ⟨-, v, rfl, z, rfl, -⟩ := h
  exact ⟨z, rfl⟩
theorem f_retl {e : Int × Int × Bool} {r : Option Value} (h : y_ret (some (1, e)) r) : ∃ w : Int64, r = some (.long w) := by
  obtain ⟨-, v, rfl, z, rfl, -⟩ := h
  exact ⟨z, rfl⟩
theorem g_55 {hc : ev_H} (h : y_in yG hc) : ∃ fs, hc[55]? = some (.inr (.inr (10, fs))) := by
  obtain ⟨cc, hq, fs, rfl, -⟩ := h 55 _ rfl
  exact ⟨fs, hq⟩
theorem g_0 {hc : ev_H} (h : y_in yG hc) : ∃ fs, hc[0]? = some (.inr (.inr (9, fs))) := by
  obtain ⟨cc, hq, fs, rfl, -⟩ := h 0 _ rfl
  exact ⟨fs, hq⟩
def LInv (hc : ev_H) : Prop := y_in yG hc ∧ ∃ len : Int, y_get hc 1 1 = some (fi len) ∧ y_get hc 55 13 = some (fi len)
def g_fr (m1 m2 : yMd) : Bool := f_nc m1 1 1 && (f_nc m1 55 13 && (f_nc m2 1 1 && f_nc m2 55 13))
theorem g_op {aC aM : Nat} {ctC ctM : yCt} {RC RM : ev_R} (hRC : ev_ms aC = some RC) (hRM : ev_ms aM = some RM) (hC : y_Mca yG aC ctC) (hM : y_Mca yG aM ctM) (hfr : g_fr ctC.2.2 ctM.2.2 = true) {hc : ev_H} (hI : LInv hc) {asC asM : List Value} (aC' : y_args ctC.1 asC) (aM' : y_args ctM.1 asM) : ∃ r1 hc1 fs1 r2 hc2, y_ret ctC.2.1 r1 ∧ f_M aC asC hc r1 hc1 ∧ hc1[55]? = some (.inr (.inr (10, fs1))) ∧ y_ret ctM.2.1 r2 ∧ f_M aM asM hc1 r2 hc2 ∧ LInv hc2 := by
  obtain ⟨hin, len, g1, g2⟩ := hI
  obtain ⟨r1, hc1, a1, a2, a3, a4⟩ := f_Mc hRC hC hin aC'
  obtain ⟨fs1, q55⟩ := g_55 a2
  obtain ⟨r2, hc2, b1, b2, b3, b4⟩ := f_Mc hRM hM a2 aM'
  unfold g_fr at hfr
  simp only [Bool.and_eq_true] at hfr
  obtain ⟨f1, f2, f3, f4⟩ := hfr
  exact ⟨r1, hc1, fs1, r2, hc2, a1, a4, q55, b1, b4, b2, len, by rw [b3 1 1 (f_nc_ok f3), a3 1 1 (f_nc_ok f1)]; exact g1, by rw [b3 55 13 (f_nc_ok f4), a3 55 13 (f_nc_ok f2)]; exact g2⟩
/-- both texts, as their lengths go -/
theorem g_tx {hc : ev_H} (hin : y_in yG hc) {len : Int} (h : y_get hc 1 1 = some (fi len)) : ∃ gs fs xs, hc[0]? = some (.inr (.inr (9, gs))) ∧ gs[0]? = some (.ref 1) ∧ hc[1]? = some (.inr (.inr (8, fs))) ∧ fs[0]? = some (.ref 2) ∧ (∃ n, fs[1]? = some (fi n) ∧ 0 ≤ n ∧ n ≤ 40 ∧ fi n = fi len) ∧ hc[2]? = some (.inl (1, xs)) ∧ xs.length = 40 := by
  obtain ⟨c0, q0, gs, rfl, h0⟩ := hin 0 _ rfl
  obtain ⟨v0, g0, k0⟩ := h0 0 _ rfl
  have k0 : v0 = .ref 1 := k0
  subst k0
  obtain ⟨c1, q1, fs, rfl, h1⟩ := hin 1 _ rfl
  obtain ⟨v1, g1, k1⟩ := h1 0 _ rfl
  have k1 : v1 = .ref 2 := k1
  subst k1
  obtain ⟨v2, g2, k2⟩ := h1 1 _ rfl
  obtain ⟨n, rfl, n1, n2⟩ := f_argi (lo := Int.ofNat 0) (hi := Int.ofNat 40) (v := v2) k2
  obtain ⟨c2, q2, xs, rfl, l2, -⟩ := hin 2 _ rfl
  rw [f_get_o q1, g2] at h
  exact ⟨gs, fs, xs, q0, g0, q1, g1, ⟨n, g2, n1, n2, Option.some.inj h⟩, q2, l2⟩
theorem g_mx {hc : ev_H} (hin : y_in yG hc) {len : Int} (h : y_get hc 55 13 = some (fi len)) : ∃ fs xs, hc[55]? = some (.inr (.inr (10, fs))) ∧ fs[12]? = some (.ref 64) ∧ (∃ n, fs[13]? = some (fi n) ∧ 0 ≤ n ∧ n ≤ 40 ∧ fi n = fi len) ∧ hc[64]? = some (.inl (0, xs)) ∧ xs.length = 40 := by
  obtain ⟨c1, q1, fs, rfl, h1⟩ := hin 55 _ rfl
  obtain ⟨v1, g1, k1⟩ := h1 12 _ rfl
  have k1 : v1 = .ref 64 := k1
  subst k1
  obtain ⟨v2, g2, k2⟩ := h1 13 _ rfl
  obtain ⟨n, rfl, n1, n2⟩ := f_argi (lo := Int.ofNat 0) (hi := Int.ofNat 40) (v := v2) k2
  obtain ⟨c2, q2, xs, rfl, l2, -⟩ := hin 64 _ rfl
  rw [f_get_o q1, g2] at h
  exact ⟨fs, xs, q1, g1, ⟨n, g2, n1, n2, Option.some.inj h⟩, q2, l2⟩
theorem g_inj {n m : Int} (n1 : 0 ≤ n) (n2 : n ≤ 40) (m1 : 0 ≤ m) (m2 : m ≤ 40) (h : fi n = fi m) : n = m := by
  have h := congrArg Int32.toInt (Value.int.inj h)
  rw [x_i32 (by omega) (by omega), x_i32 (by omega) (by omega)] at h
  exact h
theorem g_args2 {x : Int} {q : Nat} : y_args [(2, Int.ofNat q, Int.ofNat q, false), (0, Int.negSucc 2147483647, Int.ofNat 2147483647, false)] [.ref q, fi x] := f_args_c f_rAr (f_args_c f_rAi f_args_n)
theorem g_args1 {q : Nat} : y_args [(2, Int.ofNat q, Int.ofNat q, false)] [.ref q] := f_args_c f_rAr f_args_n
/-- write: both answer alike, both lengths stay alike -/
theorem g_write {hc : ev_H} (hI : LInv hc) {x : Int} (rx : -2147483648 ≤ x ∧ x ≤ 2147483647) : ∃ rr hc1 fs1 hc2, (-2147483648 ≤ rr ∧ rr ≤ 2147483647) ∧ f_M 14 [.ref 0, fi x] hc (some (fi rr)) hc1 ∧ hc1[55]? = some (.inr (.inr (10, fs1))) ∧ f_M 16 [.ref 55, fi x] hc1 (some (fi rr)) hc2 ∧ LInv hc2 := by
  obtain ⟨hin, len, e1, e2⟩ := hI
  obtain ⟨gs, fs, xs, q0, g0, q1, w0, ⟨n, w1, n1, n2, en⟩, q2, l2⟩ := g_tx hin e1
  -- what the class does
  have hC : ∃ rr hc1, (-2147483648 ≤ rr ∧ rr ≤ 2147483647) ∧ f_M 14 [.ref 0, fi x] hc (some (fi rr)) hc1 ∧ ((¬ (0 ≤ x ∧ x ≤ 255) ∧ rr = -2 ∧ y_get hc1 1 1 = some (fi n)) ∨ ((0 ≤ x ∧ x ≤ 255) ∧ n = 40 ∧ rr = -4 ∧ y_get hc1 1 1 = some (fi n)) ∨ ((0 ≤ x ∧ x ≤ 255) ∧ n < 40 ∧ rr = n + 1 ∧ y_get hc1 1 1 = some (fi (n + 1)))) := by
    by_cases hx : 0 ≤ x ∧ x ≤ 255
    · by_cases hl : n = 40
      · exact ⟨-4, hc, by decide, f14_full q1 w0 w1 q2 l2 n1 n2 q0 g0 rx.1 rx.2 hx hl, Or.inr (Or.inl ⟨hx, hl, rfl, by rw [f_get_o q1]; exact w1⟩)⟩
      · refine ⟨n + 1, _, by omega, f14_ok q1 w0 w1 q2 l2 n1 n2 q0 g0 rx.1 rx.2 hx (by omega), Or.inr (Or.inr ⟨hx, by omega, rfl, ?_⟩)⟩
        rw [f_get_o (f_set_eq (f_set_ne (show 2 ≠ 1 by decide) q1)), List.getElem?_set_self (f_len (hc := hc) (q := 0) (a := 0) w1)]
    · exact ⟨-2, hc, by decide, f14_out q1 w0 w1 q2 l2 n1 n2 q0 g0 rx.1 rx.2 hx, Or.inl ⟨hx, rfl, by rw [f_get_o q1]; exact w1⟩⟩
  obtain ⟨rr, hc1, rr0, hM1, hcase⟩ := hC
  obtain ⟨hin1, hun1⟩ := f_Mu (R := ev_r14) rfl yc14_0 hin g_args2 hM1
  have e2' : y_get hc1 55 13 = some (fi len) := by rw [hun1 55 13 (f_nc_ok (by decide))]; exact e2
  obtain ⟨fs1, ys, q55, w12, ⟨m, w13, m1, m2, em⟩, q64, l64⟩ := g_mx hin1 e2'
  have enm : m = n := g_inj m1 m2 n1 n2 (em.trans en.symm)
  subst enm
  have hM : ∃ hc2, f_M 16 [.ref 55, fi x] hc1 (some (fi rr)) hc2 ∧ y_get hc2 55 13 = y_get hc1 1 1 := by
    rcases hcase with ⟨hx, hr, hg⟩ | ⟨hx, hl, hr, hg⟩ | ⟨hx, hl, hr, hg⟩
    · exact ⟨hc1, by rw [hr]; exact f16_out q55 w12 w13 q64 l64 m1 m2 rx.1 rx.2 hx, by rw [hg, f_get_o q55]; exact w13⟩
    · exact ⟨hc1, by rw [hr]; exact f16_full q55 w12 w13 q64 l64 m1 m2 rx.1 rx.2 hx hl, by rw [hg, f_get_o q55]; exact w13⟩
    · refine ⟨_, by rw [hr]; exact f16_ok q55 w12 w13 q64 l64 m1 m2 rx.1 rx.2 hx hl, ?_⟩
      rw [hg, f_get_o (f_set_eq (f_set_ne (show 64 ≠ 55 by decide) q55)), List.getElem?_set_self (f_len (hc := hc) (q := 0) (a := 0) w13)]
  obtain ⟨hc2, hM2, hg2⟩ := hM
  obtain ⟨hin2, hun2⟩ := f_Mu (R := ev_r16) rfl yc16_0 hin1 g_args2 hM2
  have hlen : ∃ k : Int, y_get hc1 1 1 = some (fi k) := by
    rcases hcase with ⟨-, -, hg⟩ | ⟨-, -, -, hg⟩ | ⟨-, -, -, hg⟩ <;> exact ⟨_, hg⟩
  obtain ⟨k, hk⟩ := hlen
  exact ⟨rr, hc1, fs1, hc2, rr0, hM1, q55, hM2, hin2, k, by rw [hun2 1 1 (f_nc_ok (by decide))]; exact hk, by rw [hg2]; exact hk⟩
/-- wipe -/
theorem g_wipe {hc : ev_H} (hI : LInv hc) : ∃ rr hc1 fs1 hc2, (-2147483648 ≤ rr ∧ rr ≤ 2147483647) ∧ f_M 18 [.ref 0] hc (some (fi rr)) hc1 ∧ hc1[55]? = some (.inr (.inr (10, fs1))) ∧ f_M 19 [.ref 55] hc1 (some (fi rr)) hc2 ∧ LInv hc2 := by
  obtain ⟨hin, len, e1, e2⟩ := hI
  obtain ⟨gs, fs, xs, q0, g0, q1, w0, ⟨n, w1, n1, n2, en⟩, q2, l2⟩ := g_tx hin e1
  have hM1 := f18 q1 w1 q0 g0
  obtain ⟨hin1, hun1⟩ := f_Mu (R := ev_r18) rfl yc18_0 hin g_args1 hM1
  have hg1 : y_get (hc.set 1 (.inr (.inr (8, fs.set 1 (fi 0))))) 1 1 = some (fi 0) := by
    rw [f_get_o (f_set_eq q1), List.getElem?_set_self (f_len (hc := hc) (q := 0) (a := 0) w1)]
  have e2' : y_get (hc.set 1 (.inr (.inr (8, fs.set 1 (fi 0))))) 55 13 = some (fi len) := by rw [hun1 55 13 (f_nc_ok (by decide))]; exact e2
  obtain ⟨fs1, ys, q55, w12, ⟨m, w13, m1, m2, em⟩, q64, l64⟩ := g_mx hin1 e2'
  have enm : m = n := g_inj m1 m2 n1 n2 (em.trans en.symm)
  subst enm
  have hM2 := f19 q55 w13
  obtain ⟨hin2, hun2⟩ := f_Mu (R := ev_r19) rfl yc19_0 hin1 g_args1 hM2
  refine ⟨m, _, fs1, _, by omega, hM1, q55, hM2, hin2, 0, by rw [hun2 1 1 (f_nc_ok (by decide))]; exact hg1, ?_⟩
  rw [f_get_o (f_set_eq q55), List.getElem?_set_self (f_len (hc := hc) (q := 0) (a := 0) w13)]
