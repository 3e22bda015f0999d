/-! the law: its rows, what holds at its loop's head -/
section GRO
variable {xs : List Int32} {rt ini mx na rc fr lo mc ms : Nat} {t : ev_T} {pc : Nat} {Lc : ev_L} {stc : List Value} {hc : ev_H} {kc ks : Nat} {Q : Option Value → ev_H → Prop}
variable {pp0 a b pp : Nat} {i : Instr} {v : Value} {l : List (Nat × Value)}
theorem g_alr {k : Fin 4} {x : Nat} (j : Nat) (hf : ev_f t pc = some (pp0, .aload_n k, a, b, pp, v)) (hL : f_L Lc l) (hj : l[j]? = some (k.val, .retAddr x)) (h : x_W (some xs) (rt, ini, mx, na, rc, fr, lo, mc, ms, t) (pc + 1) Lc (.retAddr x :: stc) hc kc ks Q) : x_W (some xs) (rt, ini, mx, na, rc, fr, lo, mc, ms, t) pc Lc stc hc kc ks Q :=
  x_W_l hf (st' := .retAddr x :: stc) (L' := Lc) (by unfold ev_l; dsimp only; rw [hL.at j hj]) h
theorem g_sia {x : Int32} {j : Int} (hf : ev_f t pc = some (pp0, .iaload, a, b, pp, v)) (j1 : 0 ≤ j) (j2 : j ≤ 2147483647) (hx : xs[j.toNat]? = some x) (h : x_W (some xs) (rt, ini, mx, na, rc, fr, lo, mc, ms, t) (pc + 1) Lc (.int x :: stc) hc kc ks Q) : x_W (some xs) (rt, ini, mx, na, rc, fr, lo, mc, ms, t) pc Lc (fi j :: .retAddr 0 :: stc) hc kc ks Q :=
  x_W_h hf (st' := .int x :: stc) (hc' := hc) (by
    obtain ⟨hi, en⟩ := f_in_ok (n := xs.length) j1 j2 (List.getElem?_eq_some_iff.mp hx).1
    show (match ev_inn (Int32.ofInt j) xs.length with
      | true => some (Value.int (xs.getD (Int32.ofInt j).toNatClampNeg 0) :: stc, hc)
      | false => none) = _
    rw [hi, en, List.getD_eq_getElem?_getD, hx]
    rfl) h
theorem g_slen {n : Int} (hf : ev_f t pc = some (pp0, .arraylength, a, b, pp, v)) (hn : (xs.length : Int) = n) (h : x_W (some xs) (rt, ini, mx, na, rc, fr, lo, mc, ms, t) (pc + 1) Lc (fi n :: stc) hc kc ks Q) : x_W (some xs) (rt, ini, mx, na, rc, fr, lo, mc, ms, t) pc Lc (.retAddr 0 :: stc) hc kc ks Q :=
  x_W_h hf (st' := fi n :: stc) (hc' := hc) (by
    subst hn
    rfl) h
theorem g_astn {k : Fin 4} {x : Nat} (l' : List (Nat × Value)) (hf : ev_f t pc = some (pp0, .astore_n k, a, b, pp, v)) (hk : k.val < mx) (hL : f_L Lc l) (hl : f_up l k.val (.ref x) = l') (h : ∀ L', f_L L' l' → x_W (some xs) (rt, ini, mx, na, rc, fr, lo, mc, ms, t) (pc + 1) L' stc hc kc ks Q) : x_W (some xs) (rt, ini, mx, na, rc, fr, lo, mc, ms, t) pc Lc (.ref x :: stc) hc kc ks Q :=
  x_W_l hf (st' := stc) (L' := ev_s1 Lc k.val (.ref x)) (by unfold ev_l; dsimp only; rw [if_pos hk]) (h _ (by rw [← hl]; exact hL.st _ _))
end GRO
theorem g_and31 (z : Int) : ∃ d : Int, 0 ≤ d ∧ d ≤ 31 ∧ Int32.ofInt z &&& Int32.ofInt 31 = Int32.ofInt d := by
  have h := x_andle (x := Int32.ofInt z) (y := Int32.ofInt 31) (by decide)
  have e : (Int32.ofInt 31).toInt = 31 := by decide
  exact ⟨(Int32.ofInt z &&& Int32.ofInt 31).toInt, h.1, by omega, (Int32.ofInt_toInt _).symm⟩
def LInv (hc : ev_H) : Prop := y_in yG hc ∧ TR (gi hc) ∧ NR (gi hc) ∧ CR (gi hc) ∧ SI (gi hc) ∧ CLR (gi hc)
def g_fr (m1 m2 : yMd) : Bool := ((g_dis m1 TR_FP && g_dis m2 TR_FP) && ((g_dis m1 NR_FP && g_dis m2 NR_FP) && ((g_dis m1 CR_FP && g_dis m2 CR_FP) && ((g_dis m1 SI_FP && g_dis m2 SI_FP) && (g_dis m1 CLR_FP && g_dis m2 CLR_FP)))))
theorem g_op {aC aM : Nat} {ctC ctM : yCt} {RC RM : ev_R} (hRC : ev_ms aC = some RC) (hRM : ev_ms aM = some RM) (hC : y_Mca yG aC ctC) (hM : y_Mca yG aM ctM) (hfr : g_fr ctC.2.2 ctM.2.2 = true) {hc : ev_H} (hI : LInv hc) {asC asM : List Value} (aC' : y_args ctC.1 asC) (aM' : y_args ctM.1 asM) : ∃ r1 hc1 fs1 r2 hc2, y_ret ctC.2.1 r1 ∧ f_M aC asC hc r1 hc1 ∧ hc1[55]? = some (.inr (.inr (10, fs1))) ∧ y_ret ctM.2.1 r2 ∧ f_M aM asM hc1 r2 hc2 ∧ LInv hc2 := by
  obtain ⟨hin, hT, hN, hCl, hS, hX⟩ := hI
  obtain ⟨r1, hc1, a1, a2, a3, a4⟩ := f_Mc hRC hC hin aC'
  obtain ⟨fs1, q55⟩ := g_55 a2
  obtain ⟨r2, hc2, b1, b2, b3, b4⟩ := f_Mc hRM hM a2 aM'
  unfold g_fr at hfr
  simp only [Bool.and_eq_true] at hfr
  obtain ⟨⟨f0, f1⟩, ⟨f2, f3⟩, ⟨f4, f5⟩, ⟨f6, f7⟩, ⟨f8, f9⟩⟩ := hfr
  exact ⟨r1, hc1, fs1, r2, hc2, a1, a4, q55, b1, b4, b2, TR_keep (g_tw hin).1.2 ((g_dis_ok f0 a3).tr (g_dis_ok f1 b3)) hT, NR_keep ((g_dis_ok f2 a3).tr (g_dis_ok f3 b3)) hN, CR_keep ((g_dis_ok f4 a3).tr (g_dis_ok f5 b3)) hCl, SI_keep ((g_dis_ok f6 a3).tr (g_dis_ok f7 b3)) hS, CLR_keep ((g_dis_ok f8 a3).tr (g_dis_ok f9 b3)) hX⟩
