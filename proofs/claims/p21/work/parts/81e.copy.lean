/-! arraycopy over numbers -/
def cpy (m : Nat → Nat → Int) (q0 sp q1 dp n : Nat) : Nat → Nat → Int := fun q i => if q = q1 ∧ dp ≤ i ∧ i < dp + n then m q0 (sp + (i - dp)) else m q i
theorem gi_set_w {hc : ev_H} {q tt : Nat} {xs zs : List Int32} (hq : hc[q]? = some (.inl (tt, xs))) (q' i : Nat) : gi (hc.set q (.inl (tt, zs))) q' i = if q' = q then (match zs[i]? with
  | some z => z.toInt
  | none => 0) else gi hc q' i := by
  have hl := (List.getElem?_eq_some_iff.mp hq).1
  unfold gi y_get
  rw [List.getElem?_set]
  by_cases h : q = q'
  · subst h
    rw [if_pos rfl, if_pos hl, if_pos rfl]
    dsimp only
    cases zs[i]? <;> rfl
  · rw [if_neg h, if_neg (fun z => h z.symm)]
theorem gi_arr {hc : ev_H} {q tt : Nat} {xs : List Int32} (hq : hc[q]? = some (.inl (tt, xs))) (i : Nat) : gi hc q i = (match xs[i]? with
  | some z => z.toInt
  | none => 0) := by
  unfold gi y_get
  rw [hq]
  dsimp only
  cases xs[i]? <;> rfl
section CPY
variable {sc : Option (List Int32)} {rt ini mx na rc fr lo mc ms : Nat} {t : ev_T} {pc : Nat} {Lc : ev_L} {stc : List Value} {hc : ev_H} {kc ks : Nat} {Q : Option Value → ev_H → Prop}
variable {pp0 a b pp : Nat} {i : Instr} {v : Value} {m : Nat → Nat → Int}
theorem m_cp {q0 q1 n0 n1 : Nat} (h0 : h_A q0 0 n0) (h1 : h_A q1 0 n1) {sp dp n : Int} (hf : ev_f t pc = some (pp0, i, a, b, pp, v)) (hk : ev_k i b = some 2) (hw : y_in yGw hc) (hm : gi hc = m) (s1 : 0 ≤ sp) (d1 : 0 ≤ dp) (k1 : 0 ≤ n) (s2 : sp + n ≤ n0) (d2 : dp + n ≤ n1) (b0 : n0 ≤ 1000) (b1 : n1 ≤ 1000) (f1 : 1 ≤ fr) (f2 : ev_sum stc + 18 ≤ lo) (h : ∀ hc', y_in yGw hc' → gi hc' = cpy m q0 sp.toNat q1 dp.toNat n.toNat → x_W sc (rt, ini, mx, na, rc, fr, lo, mc, ms, t) (pc + 3) Lc stc hc' kc ks Q) : x_W sc (rt, ini, mx, na, rc, fr, lo, mc, ms, t) pc Lc (fi n :: fi dp :: .ref q1 :: fi sp :: .ref q0 :: stc) hc kc ks Q := by
  obtain ⟨xs, e0, l0, -⟩ := h0 hc hw
  obtain ⟨ys, e1, l1, hs⟩ := h1 hc hw
  have neg : ∀ z : Int, 0 ≤ z → z ≤ 1000 → ¬ (Int32.ofInt z < 0) ∧ (Int32.ofInt z).toNatClampNeg = z.toNat := fun z z1 z2 => by
    have ez : (Int32.ofInt z).toInt = z := x_i32 (by omega) (by omega)
    refine ⟨?_, ?_⟩
    · rw [Int32.lt_iff_toInt_lt, ez]
      have e0 : (0 : Int32).toInt = 0 := rfl
      omega
    · show ((Int32.ofInt z).toInt).toNat = z.toNat
      rw [ez]
  obtain ⟨ns, ts⟩ := neg sp s1 (by omega)
  obtain ⟨nd, td⟩ := neg dp d1 (by omega)
  obtain ⟨nn, tn⟩ := neg n k1 (by omega)
  refine x_W_c hf hk (st' := stc) (hc' := hc.set q1 (.inl (0, ys.take dp.toNat ++ ((xs.drop sp.toNat).take n.toNat ++ ys.drop (dp.toNat + n.toNat))))) ?_ f1 f2 (h _ (hs _ ?_) ?_)
  · unfold ev_cp
    try dsimp only
    rw [e0, e1]
    show (if ¬ Int32.ofInt sp < 0 ∧ ¬ Int32.ofInt dp < 0 ∧ ¬ Int32.ofInt n < 0 ∧ (Int32.ofInt sp).toNatClampNeg + (Int32.ofInt n).toNatClampNeg ≤ xs.length ∧ (Int32.ofInt dp).toNatClampNeg + (Int32.ofInt n).toNatClampNeg ≤ ys.length then some (stc, hc.set q1 (.inl (0, ys.take (Int32.ofInt dp).toNatClampNeg ++ ((xs.drop (Int32.ofInt sp).toNatClampNeg).take (Int32.ofInt n).toNatClampNeg ++ ys.drop ((Int32.ofInt dp).toNatClampNeg + (Int32.ofInt n).toNatClampNeg))))) else none) = _
    rw [ts, td, tn, if_pos ⟨ns, nd, nn, by omega, by omega⟩]
  · simp only [List.length_append, List.length_take, List.length_drop]
    omega
  · funext q' j
    rw [gi_set_w e1, ← hm]
    unfold cpy
    by_cases hq : q' = q1
    · subst hq
      rw [if_pos rfl, gi_arr e0, gi_arr e1]
      by_cases hj : dp.toNat ≤ j ∧ j < dp.toNat + n.toNat
      · rw [if_pos ⟨rfl, hj.1, hj.2⟩]
        have : (ys.take dp.toNat ++ ((xs.drop sp.toNat).take n.toNat ++ ys.drop (dp.toNat + n.toNat)))[j]? = xs[sp.toNat + (j - dp.toNat)]? := by
          rw [List.getElem?_append_right (by rw [List.length_take]; omega), List.length_take, List.getElem?_append_left (by rw [List.length_take, List.length_drop]; omega), List.getElem?_take_of_lt (by omega), List.getElem?_drop]
          congr 1
          omega
        rw [this]
      · rw [if_neg (fun z => hj ⟨z.2.1, z.2.2⟩)]
        have : (ys.take dp.toNat ++ ((xs.drop sp.toNat).take n.toNat ++ ys.drop (dp.toNat + n.toNat)))[j]? = ys[j]? := by
          by_cases hlt : j < dp.toNat
          · rw [List.getElem?_append_left (by rw [List.length_take]; omega), List.getElem?_take_of_lt hlt]
          · rw [List.getElem?_append_right (by rw [List.length_take]; omega), List.length_take, List.getElem?_append_right (by rw [List.length_take, List.length_drop]; omega), List.length_take, List.length_drop, List.getElem?_drop]
            congr 1
            omega
        rw [this]
    · rw [if_neg hq, if_neg (fun z => hq z.1)]
end CPY
/-- the scene of the class as eighteen numbers (cells S + 1, S + 2, S + 3, fields 4 to 6 of S) -/
def cV (m : Nat → Nat → Int) (S : Nat) (i : Nat) : Int := if i < 5 then m (S + 1) i else if i < 10 then m (S + 2) (i - 5) else if i < 15 then m (S + 3) (i - 10) else m S (i - 11)
/-- saved in a row q; taken from a row q -/
def sav (m : Nat → Nat → Int) (S q : Nat) : Nat → Nat → Int := fun q' i => if q' = q ∧ i < 18 then cV m S i else m q' i
def lod (m : Nat → Nat → Int) (S q : Nat) : Nat → Nat → Int := fun q' i => if q' = S + 1 ∧ i < 5 then m q i else if q' = S + 2 ∧ i < 5 then m q (i + 5) else if q' = S + 3 ∧ i < 5 then m q (i + 10) else if q' = S ∧ 4 ≤ i ∧ i ≤ 6 then m q (i + 11) else m q' i
theorem sav_eq (m : Nat → Nat → Int) (S q : Nat) (h0 : q ≠ S) (h1 : q ≠ S + 1) (h2 : q ≠ S + 2) (h3 : q ≠ S + 3) : up (up (up (cpy (cpy (cpy m (S + 1) 0 q 0 5) (S + 2) 0 q 5 5) (S + 3) 0 q 10 5) q 15 (m S 4)) q 16 (m S 5)) q 17 (m S 6) = sav m S q := by
  funext q' i
  unfold up cpy sav cV
  by_cases hq : q' = q
  · subst hq
    by_cases c1 : i < 5
    · simp [c1, show ¬ i = 15 by omega, show ¬ i = 16 by omega, show ¬ i = 17 by omega, show ¬ 10 ≤ i by omega, show ¬ 5 ≤ i by omega, show i < 18 by omega]
    · by_cases c2 : i < 10
      · simp [c1, c2, show ¬ i = 15 by omega, show ¬ i = 16 by omega, show ¬ i = 17 by omega, show ¬ 10 ≤ i by omega, show 5 ≤ i by omega, show i < 18 by omega, Ne.symm h2]
      · by_cases c3 : i < 15
        · simp [c1, c2, c3, show ¬ i = 15 by omega, show ¬ i = 16 by omega, show ¬ i = 17 by omega, show 10 ≤ i by omega, show i < 18 by omega, Ne.symm h3]
        · by_cases c4 : i < 18
          · have : i = 15 ∨ i = 16 ∨ i = 17 := by omega
            rcases this with rfl | rfl | rfl <;> simp
          · simp [c1, c2, c3, c4, show ¬ i = 15 by omega, show ¬ i = 16 by omega, show ¬ i = 17 by omega]
  · simp [hq]
theorem cpy_ne {m : Nat → Nat → Int} {q0 sp q1 dp n q i : Nat} (h : q ≠ q1) : cpy m q0 sp q1 dp n q i = m q i := if_neg (fun z => h z.1)
theorem up_nc {m : Nat → Nat → Int} {q i q' i' : Nat} {v : Int} (h : q' ≠ q) : up m q i v q' i' = m q' i' := if_neg (fun z => h z.1)
theorem lod_eq (m : Nat → Nat → Int) (S q : Nat) (h0 : q ≠ S) (h1 : q ≠ S + 1) (h2 : q ≠ S + 2) (h3 : q ≠ S + 3) : up (up (up (cpy (cpy (cpy m q 0 (S + 1) 0 5) q 5 (S + 2) 0 5) q 10 (S + 3) 0 5) S 4 (m q 15)) S 5 (m q 16)) S 6 (m q 17) = lod m S q := by
  funext q' i
  unfold up cpy lod
  by_cases e1 : q' = S + 1
  · subst e1
    by_cases c : i < 5 <;> simp [c]
  · by_cases e2 : q' = S + 2
    · subst e2
      by_cases c : i < 5
      · simp [c, h1, Nat.add_comm]
      · simp [c]
    · by_cases e3 : q' = S + 3
      · subst e3
        by_cases c : i < 5
        · simp [c, h1, h2, Nat.add_comm]
        · simp [c]
      · by_cases e0 : q' = S
        · subst e0
          by_cases c4 : i = 4
          · subst c4; simp
          · by_cases c5 : i = 5
            · subst c5; simp
            · by_cases c6 : i = 6
              · subst c6; simp
              · simp [c4, c5, c6, show ¬ (4 ≤ i ∧ i ≤ 6) by omega]
        · simp [e0, e1, e2, e3]
theorem sa_row {j : Nat} (hj : j < 14) : h_A (19 + j) 0 18 := by
  have : j = 0 ∨ j = 1 ∨ j = 2 ∨ j = 3 ∨ j = 4 ∨ j = 5 ∨ j = 6 ∨ j = 7 ∨ j = 8 ∨ j = 9 ∨ j = 10 ∨ j = 11 ∨ j = 12 ∨ j = 13 := by omega
  rcases this with rfl | rfl | rfl | rfl | rfl | rfl | rfl | rfl | rfl | rfl | rfl | rfl | rfl | rfl
  · exact sa19
  · exact sa20
  · exact sa21
  · exact sa22
  · exact sa23
  · exact sa24
  · exact sa25
  · exact sa26
  · exact sa27
  · exact sa28
  · exact sa29
  · exact sa30
  · exact sa31
  · exact sa32
theorem sa_slot {j : Nat} (hj : j < 2) : h_A (35 + j) 0 18 := by
  have : j = 0 ∨ j = 1 := by omega
  rcases this with rfl | rfl
  · exact sa35
  · exact sa36
