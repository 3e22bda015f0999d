/-! methods that write nothing; NameHallModel.letter by hand -/
def f_Pl : List Nat := [9, 13, 15, 20, 21, 22, 23, 24, 25, 36, 37, 40, 41, 42, 43, 44, 45, 46, 47, 48, 49, 50, 51, 52, 53, 54, 55, 56, 57, 58, 59, 60, 61, 62, 63, 64, 65, 66, 67, 68, 73, 74, 75, 76, 77, 84, 85, 86, 90, 98, 101, 102, 103, 105, 106, 107, 108, 109, 110, 114, 115, 116, 119, 127, 128, 130, 131, 132, 146, 156, 157, 158, 159, 160, 162, 163, 164, 165, 167, 168, 171, 172, 173, 174, 175, 176, 178, 179, 180, 181, 182, 183, 184, 189, 191, 193, 199, 200, 201]
def f_P (a : Nat) : Bool := f_Pl.contains a
set_option maxRecDepth 100000 in
theorem f_P_all : (f_Pl.all (fun a => match ev_ms a with
  | some R => f_pt f_P R.1.2.2.2.2.2.2.2.2.2
  | none => true)) = true := by decide +kernel
theorem f_P_ok : ∀ a, f_P a = true → ∀ R, ev_ms a = some R → f_pt f_P R.1.2.2.2.2.2.2.2.2.2 = true := fun a ha R hR => by
  have h1 : a ∈ f_Pl := List.contains_iff_mem.mp ha
  have h2 := List.all_eq_true.mp f_P_all a h1
  rw [hR] at h2
  exact h2
theorem f_fi {z : Int32} : Value.int z = fi z.toInt := by show Value.int z = Value.int (Int32.ofInt z.toInt); rw [Int32.ofInt_toInt]
theorem f_i32 (z : Int32) : -2147483648 ≤ z.toInt ∧ z.toInt ≤ 2147483647 := ⟨z.le_toInt, by have := z.toInt_lt; omega⟩
theorem f_rAi {z : Int32} : y_rA (0, Int.negSucc 2147483647, Int.ofNat 2147483647, false) (.int z) := ⟨z, rfl, Or.inl (f_i32 z)⟩
theorem f_ret01 {r : Option Value} (h : y_ret (some (0, Int.ofNat 0, Int.ofNat 1, false)) r) : ∃ z : Int, r = some (fi z) ∧ (z = 0 ∨ z = 1) := by
  obtain ⟨-, v, rfl, hv⟩ := h
  obtain ⟨z, rfl, z1, z2⟩ := f_argi (v := v) (show y_rA (0, Int.ofNat 0, Int.ofNat 1, false) v from hv)
  have z1 : (0 : Int) ≤ z := z1
  have z2 : z ≤ (1 : Int) := z2
  exact ⟨z, rfl, by omega⟩
/-- needs, has: an answer 0 or 1, nothing written -/
theorem f90_ex {hc : ev_H} (hin : y_in yG hc) {p : Int} (p1 : 0 ≤ p) (p2 : p ≤ 4) {h : Int} (h1 : -2147483648 ≤ h) (h2 : h ≤ 2147483647) : ∃ z : Int, (z = 0 ∨ z = 1) ∧ f_M 90 [.ref 55, fi 0, fi p, fi h] hc (some (fi z)) hc := by
  obtain ⟨r, hr, hM⟩ := f_Mp (R := ev_r90) rfl yc90_0 f_P_ok (by decide) hin (as := [.ref 55, fi 0, fi p, fi h]) (f_args_c f_rAr (f_args_c (f_rA (by decide) (by decide) (by decide) (by decide)) (f_args_c (f_rA (by decide) (by decide) p1 p2) (f_args_c (f_rA (by decide) (by decide) h1 h2) f_args_n))))
  obtain ⟨z, rfl, hz⟩ := f_ret01 hr
  exact ⟨z, hz, hM⟩
theorem f73_ex {hc : ev_H} (hin : y_in yG hc) {x y : Int32} : ∃ z : Int, (z = 0 ∨ z = 1) ∧ f_M 73 [.int x, .int y] hc (some (fi z)) hc := by
  obtain ⟨r, hr, hM⟩ := f_Mp (R := ev_r73) rfl yc73_0 f_P_ok (by decide) hin (as := [.int x, .int y]) (f_args_c f_rAi (f_args_c f_rAi f_args_n))
  obtain ⟨z, rfl, hz⟩ := f_ret01 hr
  exact ⟨z, hz, hM⟩
theorem f168_ex {hc : ev_H} {x y : Int} (x1 : -5000000 ≤ x) (x2 : x ≤ 5000000) (y1 : 1 ≤ y) (y2 : y ≤ 5000000) : ∃ z : Int, 1 ≤ z ∧ z ≤ 5000000 ∧ f_M 168 [fi x, fi y] hc (some (fi z)) hc := by
  obtain ⟨n, r, h', e, z, z1, z2, rfl, rfl⟩ := f168 hc x y x1 x2 y1 y2
  refine ⟨z, z1, z2, fun R hR => ?_⟩
  cases hR
  exact ⟨n, e⟩
def f184_A (n : Nat) : Int := match n with
  | 0 => 625
  | 1 => 125
  | 2 => 25
  | 3 => 5
  | _ => 1
def f184_Q (hc : ev_H) : Option Value → ev_H → Prop := fun r h => (∃ z : Int32, r = some (.int z)) ∧ h = hc
theorem f184_in {hc : ev_H} (hin : y_in yG hc) {fs : List Value} (hq : hc[55]? = some (.inr (.inr (10, fs)))) {nm pp : Int} (w0 : fs[0]? = some (fi nm)) (w1 : fs[1]? = some (fi pp)) (w6 : fs[6]? = some (.ref 60)) (w7 : fs[7]? = some (.ref 61)) (nm1 : 0 ≤ nm) (nm2 : nm ≤ 4) (pp1 : 0 ≤ pp) (pp2 : pp ≤ 5) {xs ns : List Int32} (hxs : hc[60]? = some (.inl (0, xs))) (lxs : xs.length = 5) (hns : hc[61]? = some (.inl (0, ns))) (lns : ns.length = 36) {p h u : Int} (p1 : 0 ≤ p) (p2 : p < pp) (h1 : -2147483648 ≤ h) (h2 : h ≤ 2147483647) (u1 : 0 ≤ u) (u2 : u ≤ 1) {rN : Int} (hN : f_M 90 [.ref 55, fi 0, fi p, fi h] hc (some (fi rN)) hc) (rN01 : rN = 0 ∨ rN = 1) {k all nn : Int} {B : Prop} (hB : B → f_M 90 [.ref 55, fi 0, fi p, fi h] hc (some (fi 1)) hc ∧ ∃ x : Int32, xs[p.toNat]? = some x ∧ ∃ rF : Value, f_M 73 [.int x, fi k] hc (some rF) hc ∧ rF = fi 1)
    (K : ∀ L many, 0 ≤ many → many ≤ 5 → (B → 1 ≤ many) → f_L L [(7, fi (many)), (6, fi (k)), (5, fi (all)), (4, fi (nn)), (0, .ref 55), (1, fi (p)), (2, fi (h)), (3, fi (u))] → x_W none (1, 0, 9, 3, 11, 3, 66, 0, 0, ev_t184) 100 L [] hc 0 0 (f184_Q hc)) :
    ∀ (n : Nat) (o many : Int) (L : ev_L), 0 ≤ o → o ≤ pp → (pp - o).toNat ≤ n → 0 ≤ many → many ≤ o → (p < o → B → 1 ≤ many) → f_L L [(8, fi (o)), (7, fi (many)), (6, fi (k)), (5, fi (all)), (4, fi (nn)), (0, .ref 55), (1, fi (p)), (2, fi (h)), (3, fi (u))] → x_W none (1, 0, 9, 3, 11, 3, 66, 0, 0, ev_t184) 49 L [] hc 0 0 (f184_Q hc) := by
  intro n
  induction n with
  | zero =>
    intro o many L o1 o2 hn m1 m2 m3 hL
    refine f_il 0 rfl hL rfl ?_
    refine f_aln 5 rfl hL rfl ?_
    refine f_gf rfl hq w1 ?_
    refine f_ic rfl (by omega) (by omega) (fun _ => ?_) (fun c => absurd (show pp ≤ o by omega) c)
    exact K L many m1 (by omega) (fun b => m3 (by omega) b) (hL.sel [1, 2, 3, 4, 5, 6, 7, 8] rfl)
  | succ n ih =>
    intro o many L o1 o2 hn m1 m2 m3 hL
    refine f_il 0 rfl hL rfl ?_
    refine f_aln 5 rfl hL rfl ?_
    refine f_gf rfl hq w1 ?_
    refine f_ic rfl (by omega) (by omega) (fun c0 => ?_) (fun c0 => ?_)
    · have c0 : (pp : Int) ≤ (o : Int) := c0
      exact K L many m1 (by omega) (fun b => m3 (by omega) b) (hL.sel [1, 2, 3, 4, 5, 6, 7, 8] rfl)
    · have c0 : ¬ ((pp : Int) ≤ (o : Int)) := c0
      obtain ⟨r, r01, hM⟩ := f90_ex hin (p := o) o1 (by omega) h1 h2
      have hox : o.toNat < xs.length := by rw [lxs]; omega
      have hx : xs[o.toNat]? = some xs[o.toNat] := List.getElem?_eq_getElem hox
      obtain ⟨r2, r201, hM2⟩ := f73_ex hin (x := xs[o.toNat]) (y := Int32.ofInt k)
      have same : o = p → B → r = 1 ∧ r2 = 1 := fun e b => by
        subst e
        obtain ⟨b1, x, bx, rF, b2, b3⟩ := hB b
        have e1 := (f_M.un (R := ev_r90) rfl hM b1).1
        rw [hx] at bx
        cases bx
        have e2 := (f_M.un (R := ev_r73) rfl hM2 (b3 ▸ b2)).1
        have q1 : (fi r : Value) = fi 1 := Option.some.inj e1
        have q2 : (fi r2 : Value) = fi 1 := Option.some.inj e2
        have q1 := congrArg Int32.toInt (Value.int.inj q1)
        have q2 := congrArg Int32.toInt (Value.int.inj q2)
        rw [x_i32 (by omega) (by omega), x_i32 (by omega) (by omega)] at q1 q2
        exact ⟨q1, q2⟩
      refine f_il 1 rfl hL rfl ?_
      refine f_aln 5 rfl hL rfl ?_
      refine f_s [fi (0), .ref 55, fi (many)] rfl rfl ?_
      refine f_il 0 rfl hL rfl ?_
      refine f_iln 7 rfl hL rfl ?_
      refine f_k1 hM rfl rfl rfl (f_ar_v hq rfl) rfl ?_
      refine f_if rfl (by omega) (fun c1 => ?_) (fun c1 => ?_)
      · have c1 : (r : Int) = (0 : Int) := c1
        refine f_s [fi (0), fi (many)] rfl rfl ?_
        refine f_iadd rfl ?_
        refine f_ist [(7, fi (many + 0)), (8, fi (o)), (6, fi (k)), (5, fi (all)), (4, fi (nn)), (0, .ref 55), (1, fi (p)), (2, fi (h)), (3, fi (u))] rfl (by decide) hL rfl (fun L1 hL1 => ?_)
        refine f_inc 1 [(8, fi (o + 1)), (7, fi (many + 0)), (6, fi (k)), (5, fi (all)), (4, fi (nn)), (0, .ref 55), (1, fi (p)), (2, fi (h)), (3, fi (u))] rfl (by decide) hL1 rfl rfl (fun L2 hL2 => ?_)
        refine f_goto rfl ?_
        exact ih (o + 1) (many + 0) _ (by omega) (by omega) (by omega) (by omega) (by omega) (fun z b => if e : o = p then (by have := same e b; omega) else (by have := m3 (by omega) b; omega)) (hL2.sel [0, 1, 2, 3, 4, 5, 6, 7, 8] rfl)
      · have c1 : ¬ ((r : Int) = (0 : Int)) := c1
        refine f_aln 5 rfl hL rfl ?_
        refine f_gf rfl hq w6 ?_
        refine f_il 0 rfl hL rfl ?_
        refine f_ia rfl hxs o1 (by omega) hx ?_
        refine f_il 2 rfl hL rfl ?_
        refine f_k1 hM2 rfl rfl rfl rfl rfl ?_
        refine f_if rfl (by omega) (fun c2 => ?_) (fun c2 => ?_)
        · have c2 : (r2 : Int) = (0 : Int) := c2
          refine f_s [fi (0), fi (many)] rfl rfl ?_
          refine f_iadd rfl ?_
          refine f_ist [(7, fi (many + 0)), (8, fi (o)), (6, fi (k)), (5, fi (all)), (4, fi (nn)), (0, .ref 55), (1, fi (p)), (2, fi (h)), (3, fi (u))] rfl (by decide) hL rfl (fun L3 hL3 => ?_)
          refine f_inc 1 [(8, fi (o + 1)), (7, fi (many + 0)), (6, fi (k)), (5, fi (all)), (4, fi (nn)), (0, .ref 55), (1, fi (p)), (2, fi (h)), (3, fi (u))] rfl (by decide) hL3 rfl rfl (fun L4 hL4 => ?_)
          refine f_goto rfl ?_
          exact ih (o + 1) (many + 0) _ (by omega) (by omega) (by omega) (by omega) (by omega) (fun z b => if e : o = p then (by have := same e b; omega) else (by have := m3 (by omega) b; omega)) (hL4.sel [0, 1, 2, 3, 4, 5, 6, 7, 8] rfl)
        · have c2 : ¬ ((r2 : Int) = (0 : Int)) := c2
          refine f_s [fi (1), fi (many)] rfl rfl ?_
          refine f_goto rfl ?_
          refine f_iadd rfl ?_
          refine f_ist [(7, fi (many + 1)), (8, fi (o)), (6, fi (k)), (5, fi (all)), (4, fi (nn)), (0, .ref 55), (1, fi (p)), (2, fi (h)), (3, fi (u))] rfl (by decide) hL rfl (fun L5 hL5 => ?_)
          refine f_inc 1 [(8, fi (o + 1)), (7, fi (many + 1)), (6, fi (k)), (5, fi (all)), (4, fi (nn)), (0, .ref 55), (1, fi (p)), (2, fi (h)), (3, fi (u))] rfl (by decide) hL5 rfl rfl (fun L6 hL6 => ?_)
          refine f_goto rfl ?_
          exact ih (o + 1) (many + 1) _ (by omega) (by omega) (by omega) (by omega) (by omega) (fun z b => by omega) (hL6.sel [0, 1, 2, 3, 4, 5, 6, 7, 8] rfl)
theorem f184_end {hc : ev_H} (hin : y_in yG hc) {fs : List Value} (hq : hc[55]? = some (.inr (.inr (10, fs)))) {nm pp : Int} (w0 : fs[0]? = some (fi nm)) (w1 : fs[1]? = some (fi pp)) (w6 : fs[6]? = some (.ref 60)) (w7 : fs[7]? = some (.ref 61)) (nm1 : 0 ≤ nm) (nm2 : nm ≤ 4) (pp1 : 0 ≤ pp) (pp2 : pp ≤ 5) {xs ns : List Int32} (hxs : hc[60]? = some (.inl (0, xs))) (lxs : xs.length = 5) (hns : hc[61]? = some (.inl (0, ns))) (lns : ns.length = 36) {p h u : Int} (p1 : 0 ≤ p) (p2 : p < pp) (h1 : -2147483648 ≤ h) (h2 : h ≤ 2147483647) (u1 : 0 ≤ u) (u2 : u ≤ 1) {rN : Int} (hN : f_M 90 [.ref 55, fi 0, fi p, fi h] hc (some (fi rN)) hc) (rN01 : rN = 0 ∨ rN = 1) {k all nn : Int} (a1 : 1 ≤ all) (a2 : all ≤ 625) (b1 : 0 ≤ nn) (b2 : nn ≤ 625) {L : ev_L} (hL : f_L L [(6, fi (k)), (5, fi (all)), (4, fi (nn)), (0, .ref 55), (1, fi (p)), (2, fi (h)), (3, fi (u))]) : x_W none (1, 0, 9, 3, 11, 3, 66, 0, 0, ev_t184) 186 L [] hc 0 0 (f184_Q hc) := by
  obtain ⟨d, d1, d2, hD⟩ := f168_ex (hc := hc) (x := all - nn) (y := all) (by omega) (by omega) (by omega) (by omega)
  refine f_il 1 rfl hL rfl ?_
  refine f_il 2 rfl hL rfl ?_
  refine f_isub rfl ?_
  refine f_il 1 rfl hL rfl ?_
  refine f_k1 hD rfl rfl rfl rfl rfl ?_
  refine f_ist [(6, fi (d)), (5, fi (all)), (4, fi (nn)), (0, .ref 55), (1, fi (p)), (2, fi (h)), (3, fi (u))] rfl (by decide) hL rfl (fun L1 hL1 => ?_)
  refine f_iln 6 rfl hL1 rfl ?_
  refine f_if rfl (by omega) (fun c8 => ?_) (fun c8 => ?_)
  · have c8 : (u : Int) = (0 : Int) := c8
    refine f_il 1 rfl hL1 rfl ?_
    refine f_il 0 rfl hL1 rfl ?_
    refine f_idiv rfl (by omega) (by omega) (by omega) (by omega) ?_
    exact f_ret1 rfl ⟨⟨_, rfl⟩, rfl⟩
  · have c8 : ¬ ((u : Int) = (0 : Int)) := c8
    refine f_il 1 rfl hL1 rfl ?_
    refine f_il 2 rfl hL1 rfl ?_
    refine f_isub rfl ?_
    refine f_il 0 rfl hL1 rfl ?_
    refine f_idiv rfl (by omega) (by omega) (by omega) (by omega) ?_
    refine f_goto rfl ?_
    exact f_ret1 rfl ⟨⟨_, rfl⟩, rfl⟩
set_option maxHeartbeats 1000000 in
theorem f184_out {hc : ev_H} (hin : y_in yG hc) {fs : List Value} (hq : hc[55]? = some (.inr (.inr (10, fs)))) {nm pp : Int} (w0 : fs[0]? = some (fi nm)) (w1 : fs[1]? = some (fi pp)) (w6 : fs[6]? = some (.ref 60)) (w7 : fs[7]? = some (.ref 61)) (nm1 : 0 ≤ nm) (nm2 : nm ≤ 4) (pp1 : 0 ≤ pp) (pp2 : pp ≤ 5) {xs ns : List Int32} (hxs : hc[60]? = some (.inl (0, xs))) (lxs : xs.length = 5) (hns : hc[61]? = some (.inl (0, ns))) (lns : ns.length = 36) {p h u : Int} (p1 : 0 ≤ p) (p2 : p < pp) (h1 : -2147483648 ≤ h) (h2 : h ≤ 2147483647) (u1 : 0 ≤ u) (u2 : u ≤ 1) {rN : Int} (hN : f_M 90 [.ref 55, fi 0, fi p, fi h] hc (some (fi rN)) hc) (rN01 : rN = 0 ∨ rN = 1) : ∀ (n : Nat) (k all nn : Int) (L : ev_L), 0 ≤ k → k ≤ nm → k = 4 - (n : Int) → 1 ≤ all → all ≤ f184_A n → all ≤ 625 → 0 ≤ nn → nn ≤ f184_A n → nn ≤ 625 → f_L L [(6, fi (k)), (5, fi (all)), (4, fi (nn)), (0, .ref 55), (1, fi (p)), (2, fi (h)), (3, fi (u))] → x_W none (1, 0, 9, 3, 11, 3, 66, 0, 0, ev_t184) 34 L [] hc 0 0 (f184_Q hc) := by
  intro n
  induction n with
  | zero =>
    intro k all nn L k1 k2 hk a1 a2 a3 b1 b2 b3 hL
    refine f_il 0 rfl hL rfl ?_
    refine f_aln 3 rfl hL rfl ?_
    refine f_gf rfl hq w0 ?_
    refine f_ic rfl (by omega) (by omega) (fun _ => ?_) (fun c => absurd (show nm ≤ k by omega) c)
    exact f184_end hin hq w0 w1 w6 w7 nm1 nm2 pp1 pp2 hxs lxs hns lns p1 p2 h1 h2 u1 u2 hN rN01 a1 a3 b1 b3 hL
  | succ n ih =>
    intro k all nn L k1 k2 hk a1 a2 a3 b1 b2 b3 hL
    refine f_il 0 rfl hL rfl ?_
    refine f_aln 3 rfl hL rfl ?_
    refine f_gf rfl hq w0 ?_
    refine f_ic rfl (by omega) (by omega) (fun c0 => ?_) (fun c0 => ?_)
    · have c0 : (nm : Int) ≤ (k : Int) := c0
      exact f184_end hin hq w0 w1 w6 w7 nm1 nm2 pp1 pp2 hxs lxs hns lns p1 p2 h1 h2 u1 u2 hN rN01 a1 a3 b1 b3 hL
    · have c0 : ¬ ((nm : Int) ≤ (k : Int)) := c0
      have n3 : n ≤ 3 := by omega
      have hA : f184_A (n + 1) * 5 = f184_A n ∧ 0 ≤ f184_A (n + 1) ∧ f184_A n ≤ 625 := by
        have : n = 0 ∨ n = 1 ∨ n = 2 ∨ n = 3 := by omega
        rcases this with rfl | rfl | rfl | rfl <;> decide
      have hpx : p.toNat < xs.length := by rw [lxs]; omega
      have hx : xs[p.toNat]? = some xs[p.toNat] := List.getElem?_eq_getElem hpx
      obtain ⟨rF, rF01, hF⟩ := f73_ex hin (x := xs[p.toNat]) (y := Int32.ofInt k)
      have hgx : (15 : Int).toNat < ns.length := by rw [lns]; decide
      have hg : ns[(15 : Int).toNat]? = some ns[(15 : Int).toNat] := List.getElem?_eq_getElem hgx
      obtain ⟨rG, rG01, hG⟩ := f73_ex hin (x := ns[(15 : Int).toNat]) (y := Int32.ofInt k)
      refine f_s [fi (0)] rfl rfl ?_
      refine f_ist [(7, fi (0)), (6, fi (k)), (5, fi (all)), (4, fi (nn)), (0, .ref 55), (1, fi (p)), (2, fi (h)), (3, fi (u))] rfl (by decide) hL rfl (fun L1 hL1 => ?_)
      refine f_s [fi (0)] rfl rfl ?_
      refine f_ist [(8, fi (0)), (7, fi (0)), (6, fi (k)), (5, fi (all)), (4, fi (nn)), (0, .ref 55), (1, fi (p)), (2, fi (h)), (3, fi (u))] rfl (by decide) hL1 rfl (fun L2 hL2 => ?_)
      refine f184_in hin hq w0 w1 w6 w7 nm1 nm2 pp1 pp2 hxs lxs hns lns p1 p2 h1 h2 u1 u2 hN rN01 (k := k) (all := all) (nn := nn) (B := rN = 1 ∧ rF = 1) (fun b => ⟨by rw [← b.1]; exact hN, _, hx, _, hF, by rw [b.2]⟩) ?_ pp.toNat 0 0 _ (by omega) (by omega) (by omega) (by omega) (by omega) (fun z => by omega) hL2
      intro L9 many m1 m2 m3 hL9
      have x1 : all * many ≤ f184_A n := by rw [← hA.1]; exact Int.mul_le_mul a2 m2 m1 hA.2.1
      have x2 : many ≤ 1 ∨ nn * (many - 1) ≤ f184_A n := by
        rw [← hA.1]
        by_cases e : many ≤ 1
        · exact Or.inl e
        · exact Or.inr (Int.mul_le_mul b2 (by omega) (by omega) hA.2.1)
      have x3 : f184_A (n + 1) ≤ f184_A n := by omega
      refine f_aln 4 rfl hL9 rfl ?_
      refine f_s [fi (0), .ref 55] rfl rfl ?_
      refine f_iln 5 rfl hL9 rfl ?_
      refine f_iln 6 rfl hL9 rfl ?_
      refine f_k1 hN rfl rfl rfl (f_ar_v hq rfl) rfl ?_
      refine f_if rfl (by omega) (fun c2 => ?_) (fun c2 => ?_)
      · have c2 : (rN : Int) = (0 : Int) := c2
        refine f_s [fi (0)] rfl rfl ?_
        refine f_ist [(8, fi (0)), (7, fi (many)), (6, fi (k)), (5, fi (all)), (4, fi (nn)), (0, .ref 55), (1, fi (p)), (2, fi (h)), (3, fi (u))] rfl (by decide) hL9 rfl (fun L3 hL3 => ?_)
        refine f_il 4 rfl hL3 rfl ?_
        refine f_il 0 rfl hL3 rfl ?_
        refine f_if rfl (by omega) (fun c5 => ?_) (fun c => absurd rfl c)
        have c5 : (0 : Int) = (0 : Int) := c5
        refine f_s [fi (1), fi (nn)] rfl rfl ?_
        refine f_imul rfl ?_
        refine f_ist [(4, fi (nn * 1)), (8, fi (0)), (7, fi (many)), (6, fi (k)), (5, fi (all)), (0, .ref 55), (1, fi (p)), (2, fi (h)), (3, fi (u))] rfl (by decide) hL3 rfl (fun L4 hL4 => ?_)
        refine f_il 4 rfl hL4 rfl ?_
        refine f_il 1 rfl hL4 rfl ?_
        refine f_if rfl (by omega) (fun c6 => ?_) (fun c => absurd rfl c)
        have c6 : (0 : Int) = (0 : Int) := c6
        refine f_s [fi (1), fi (all)] rfl rfl ?_
        refine f_imul rfl ?_
        refine f_ist [(5, fi (all * 1)), (4, fi (nn * 1)), (8, fi (0)), (7, fi (many)), (6, fi (k)), (0, .ref 55), (1, fi (p)), (2, fi (h)), (3, fi (u))] rfl (by decide) hL4 rfl (fun L5 hL5 => ?_)
        refine f_inc 4 [(6, fi (k + 1)), (5, fi (all * 1)), (4, fi (nn * 1)), (8, fi (0)), (7, fi (many)), (0, .ref 55), (1, fi (p)), (2, fi (h)), (3, fi (u))] rfl (by decide) hL5 rfl rfl (fun L6 hL6 => ?_)
        refine f_goto rfl ?_
        exact ih (k + 1) (all * 1) (nn * 1) _ (by omega) (by omega) (by omega) (by omega) (by omega) (by omega) (by omega) (by omega) (by omega) (hL6.sel [0, 1, 2, 5, 6, 7, 8] rfl)
      · have c2 : ¬ ((rN : Int) = (0 : Int)) := c2
        refine f_aln 4 rfl hL9 rfl ?_
        refine f_gf rfl hq w6 ?_
        refine f_iln 5 rfl hL9 rfl ?_
        refine f_ia rfl hxs p1 (by omega) hx ?_
        refine f_il 1 rfl hL9 rfl ?_
        refine f_k1 hF rfl rfl rfl rfl rfl ?_
        refine f_if rfl (by omega) (fun c3 => ?_) (fun c3 => ?_)
        · have c3 : (rF : Int) = (0 : Int) := c3
          refine f_s [fi (0)] rfl rfl ?_
          refine f_ist [(8, fi (0)), (7, fi (many)), (6, fi (k)), (5, fi (all)), (4, fi (nn)), (0, .ref 55), (1, fi (p)), (2, fi (h)), (3, fi (u))] rfl (by decide) hL9 rfl (fun L7 hL7 => ?_)
          refine f_il 4 rfl hL7 rfl ?_
          refine f_il 0 rfl hL7 rfl ?_
          refine f_if rfl (by omega) (fun c5 => ?_) (fun c => absurd rfl c)
          have c5 : (0 : Int) = (0 : Int) := c5
          refine f_s [fi (1), fi (nn)] rfl rfl ?_
          refine f_imul rfl ?_
          refine f_ist [(4, fi (nn * 1)), (8, fi (0)), (7, fi (many)), (6, fi (k)), (5, fi (all)), (0, .ref 55), (1, fi (p)), (2, fi (h)), (3, fi (u))] rfl (by decide) hL7 rfl (fun L8 hL8 => ?_)
          refine f_il 4 rfl hL8 rfl ?_
          refine f_il 1 rfl hL8 rfl ?_
          refine f_if rfl (by omega) (fun c6 => ?_) (fun c => absurd rfl c)
          have c6 : (0 : Int) = (0 : Int) := c6
          refine f_s [fi (1), fi (all)] rfl rfl ?_
          refine f_imul rfl ?_
          refine f_ist [(5, fi (all * 1)), (4, fi (nn * 1)), (8, fi (0)), (7, fi (many)), (6, fi (k)), (0, .ref 55), (1, fi (p)), (2, fi (h)), (3, fi (u))] rfl (by decide) hL8 rfl (fun L9 hL9 => ?_)
          refine f_inc 4 [(6, fi (k + 1)), (5, fi (all * 1)), (4, fi (nn * 1)), (8, fi (0)), (7, fi (many)), (0, .ref 55), (1, fi (p)), (2, fi (h)), (3, fi (u))] rfl (by decide) hL9 rfl rfl (fun L10 hL10 => ?_)
          refine f_goto rfl ?_
          exact ih (k + 1) (all * 1) (nn * 1) _ (by omega) (by omega) (by omega) (by omega) (by omega) (by omega) (by omega) (by omega) (by omega) (hL10.sel [0, 1, 2, 5, 6, 7, 8] rfl)
        · have c3 : ¬ ((rF : Int) = (0 : Int)) := c3
          refine f_aln 4 rfl hL9 rfl ?_
          refine f_gf rfl hq w7 ?_
          refine f_bipush (n := 15) rfl (by decide) ?_
          refine f_ia rfl hns (by decide) (by decide) hg ?_
          refine f_il 1 rfl hL9 rfl ?_
          refine f_k1 hG rfl rfl rfl rfl rfl ?_
          refine f_if rfl (by omega) (fun c4 => ?_) (fun c4 => ?_)
          · have c4 : ¬ (rG : Int) = (0 : Int) := c4
            refine f_s [fi (0)] rfl rfl ?_
            refine f_ist [(8, fi (0)), (7, fi (many)), (6, fi (k)), (5, fi (all)), (4, fi (nn)), (0, .ref 55), (1, fi (p)), (2, fi (h)), (3, fi (u))] rfl (by decide) hL9 rfl (fun L11 hL11 => ?_)
            refine f_il 4 rfl hL11 rfl ?_
            refine f_il 0 rfl hL11 rfl ?_
            refine f_if rfl (by omega) (fun c5 => ?_) (fun c => absurd rfl c)
            have c5 : (0 : Int) = (0 : Int) := c5
            refine f_s [fi (1), fi (nn)] rfl rfl ?_
            refine f_imul rfl ?_
            refine f_ist [(4, fi (nn * 1)), (8, fi (0)), (7, fi (many)), (6, fi (k)), (5, fi (all)), (0, .ref 55), (1, fi (p)), (2, fi (h)), (3, fi (u))] rfl (by decide) hL11 rfl (fun L12 hL12 => ?_)
            refine f_il 4 rfl hL12 rfl ?_
            refine f_il 1 rfl hL12 rfl ?_
            refine f_if rfl (by omega) (fun c6 => ?_) (fun c => absurd rfl c)
            have c6 : (0 : Int) = (0 : Int) := c6
            refine f_s [fi (1), fi (all)] rfl rfl ?_
            refine f_imul rfl ?_
            refine f_ist [(5, fi (all * 1)), (4, fi (nn * 1)), (8, fi (0)), (7, fi (many)), (6, fi (k)), (0, .ref 55), (1, fi (p)), (2, fi (h)), (3, fi (u))] rfl (by decide) hL12 rfl (fun L13 hL13 => ?_)
            refine f_inc 4 [(6, fi (k + 1)), (5, fi (all * 1)), (4, fi (nn * 1)), (8, fi (0)), (7, fi (many)), (0, .ref 55), (1, fi (p)), (2, fi (h)), (3, fi (u))] rfl (by decide) hL13 rfl rfl (fun L14 hL14 => ?_)
            refine f_goto rfl ?_
            exact ih (k + 1) (all * 1) (nn * 1) _ (by omega) (by omega) (by omega) (by omega) (by omega) (by omega) (by omega) (by omega) (by omega) (hL14.sel [0, 1, 2, 5, 6, 7, 8] rfl)
          · have c4 : ¬ (¬ (rG : Int) = (0 : Int)) := c4
            refine f_s [fi (1)] rfl rfl ?_
            refine f_goto rfl ?_
            refine f_ist [(8, fi (1)), (7, fi (many)), (6, fi (k)), (5, fi (all)), (4, fi (nn)), (0, .ref 55), (1, fi (p)), (2, fi (h)), (3, fi (u))] rfl (by decide) hL9 rfl (fun L15 hL15 => ?_)
            refine f_il 4 rfl hL15 rfl ?_
            refine f_il 0 rfl hL15 rfl ?_
            refine f_if rfl (by omega) (fun c => absurd c (show ¬ (1 : Int) = 0 by decide)) (fun c5 => ?_)
            have c5 : ¬ ((1 : Int) = (0 : Int)) := c5
            refine f_il 1 rfl hL15 rfl ?_
            refine f_s [fi (1), fi (many), fi (nn)] rfl rfl ?_
            refine f_isub rfl ?_
            refine f_goto rfl ?_
            refine f_imul rfl ?_
            refine f_ist [(4, fi (nn * (many - 1))), (8, fi (1)), (7, fi (many)), (6, fi (k)), (5, fi (all)), (0, .ref 55), (1, fi (p)), (2, fi (h)), (3, fi (u))] rfl (by decide) hL15 rfl (fun L16 hL16 => ?_)
            refine f_il 4 rfl hL16 rfl ?_
            refine f_il 1 rfl hL16 rfl ?_
            refine f_if rfl (by omega) (fun c => absurd c (show ¬ (1 : Int) = 0 by decide)) (fun c6 => ?_)
            have c6 : ¬ ((1 : Int) = (0 : Int)) := c6
            refine f_il 2 rfl hL16 rfl ?_
            refine f_goto rfl ?_
            refine f_imul rfl ?_
            refine f_ist [(5, fi (all * many)), (4, fi (nn * (many - 1))), (8, fi (1)), (7, fi (many)), (6, fi (k)), (0, .ref 55), (1, fi (p)), (2, fi (h)), (3, fi (u))] rfl (by decide) hL16 rfl (fun L17 hL17 => ?_)
            refine f_inc 4 [(6, fi (k + 1)), (5, fi (all * many)), (4, fi (nn * (many - 1))), (8, fi (1)), (7, fi (many)), (0, .ref 55), (1, fi (p)), (2, fi (h)), (3, fi (u))] rfl (by decide) hL17 rfl rfl (fun L18 hL18 => ?_)
            refine f_goto rfl ?_
            have y1 : 1 ≤ many := m3 ⟨by omega, by omega⟩
            have y2 : 1 ≤ all * many := Int.mul_pos (by omega) (by omega)
            have y3 : 0 ≤ nn * (many - 1) := Int.mul_nonneg b1 (by omega)
            have y4 : nn * (many - 1) ≤ f184_A n := by
              rcases x2 with e | e
              · have : many = 1 := by omega
                subst this
                have e0 : nn * (1 - 1) = 0 := by rw [Int.sub_self, Int.mul_zero]
                omega
              · exact e
            exact ih (k + 1) (all * many) (nn * (many - 1)) _ (by omega) (by omega) (by omega) y2 x1 (by omega) y3 y4 (by omega) (hL18.sel [0, 1, 2, 5, 6, 7, 8] rfl)
set_option maxHeartbeats 1000000 in
theorem f184 {hc : ev_H} (hin : y_in yG hc) {fs : List Value} (hq : hc[55]? = some (.inr (.inr (10, fs)))) {nm pp : Int} (w0 : fs[0]? = some (fi nm)) (w1 : fs[1]? = some (fi pp)) (w6 : fs[6]? = some (.ref 60)) (w7 : fs[7]? = some (.ref 61)) (nm1 : 0 ≤ nm) (nm2 : nm ≤ 4) (pp1 : 0 ≤ pp) (pp2 : pp ≤ 5) {xs ns : List Int32} (hxs : hc[60]? = some (.inl (0, xs))) (lxs : xs.length = 5) (hns : hc[61]? = some (.inl (0, ns))) (lns : ns.length = 36) {p h u : Int} (q1 : -2147483648 ≤ p) (q2 : p ≤ 2147483647) (h1 : -2147483648 ≤ h) (h2 : h ≤ 2147483647) (u1 : 0 ≤ u) (u2 : u ≤ 1) : x_W none (1, 0, 9, 3, 11, 3, 66, 0, 0, ev_t184) 0 (lv_args 0 [.ref 55, fi p, fi h, fi u]) [] hc 0 0 (f184_Q hc) := by
  have hL : f_L (lv_args 0 [.ref 55, fi p, fi h, fi u]) [(0, .ref 55), (1, fi (p)), (2, fi (h)), (3, fi (u))] := f_L_of rfl
  generalize lv_args 0 [.ref 55, fi p, fi h, fi u] = L at hL
  have hP := f61 hc p pp ⟨q1, q2⟩ ⟨pp1, by omega⟩ hq w1
  by_cases hp : 0 ≤ p ∧ p ≤ pp - 1
  · rw [if_pos hp] at hP
    have hH := f15 hc h 0 9 (by omega) (by omega) (by omega)
    by_cases hh : 0 ≤ h ∧ h ≤ 9
    · rw [if_pos hh] at hH
      refine f_aln 0 rfl hL rfl ?_
      refine f_iln 1 rfl hL rfl ?_
      refine f_k1 hP rfl rfl rfl (f_ar_v hq rfl) rfl ?_
      refine f_if rfl (by omega) (fun c => ?_) (fun c => absurd (show ¬ (1 : Int) = 0 by decide) c)
      have c : ¬ (1 : Int) = (0 : Int) := c
      refine f_iln 2 rfl hL rfl ?_
      refine f_i2l rfl (by omega) ?_
      refine f_s [fl (0), fl (h)] rfl rfl ?_
      refine f_ldc2 (9) rfl rfl ?_
      refine f_k1 hH rfl rfl rfl rfl rfl ?_
      refine f_if rfl (by omega) (fun c => ?_) (fun c => absurd (show ¬ (1 : Int) = 0 by decide) c)
      have c : ¬ (1 : Int) = (0 : Int) := c
      refine f_s [fi (1)] rfl rfl ?_
      refine f_ist [(4, fi (1)), (0, .ref 55), (1, fi (p)), (2, fi (h)), (3, fi (u))] rfl (by decide) hL rfl (fun L1 hL1 => ?_)
      refine f_s [fi (1)] rfl rfl ?_
      refine f_ist [(5, fi (1)), (4, fi (1)), (0, .ref 55), (1, fi (p)), (2, fi (h)), (3, fi (u))] rfl (by decide) hL1 rfl (fun L2 hL2 => ?_)
      refine f_s [fi (0)] rfl rfl ?_
      refine f_ist [(6, fi (0)), (5, fi (1)), (4, fi (1)), (0, .ref 55), (1, fi (p)), (2, fi (h)), (3, fi (u))] rfl (by decide) hL2 rfl (fun L3 hL3 => ?_)
      obtain ⟨rN, rN01, hN⟩ := f90_ex hin (p := p) (by omega) (by omega) h1 h2
      exact f184_out hin hq w0 w1 w6 w7 nm1 nm2 pp1 pp2 hxs lxs hns lns (by omega) (by omega) h1 h2 u1 u2 hN rN01 4 0 1 1 _ (by omega) (by omega) (by omega) (by decide) (by decide) (by decide) (by decide) (by decide) (by decide) hL3
    · rw [if_neg hh] at hH
      refine f_aln 0 rfl hL rfl ?_
      refine f_iln 1 rfl hL rfl ?_
      refine f_k1 hP rfl rfl rfl (f_ar_v hq rfl) rfl ?_
      refine f_if rfl (by omega) (fun c => ?_) (fun c => absurd (show ¬ (1 : Int) = 0 by decide) c)
      have c : ¬ (1 : Int) = (0 : Int) := c
      refine f_iln 2 rfl hL rfl ?_
      refine f_i2l rfl (by omega) ?_
      refine f_s [fl (0), fl (h)] rfl rfl ?_
      refine f_ldc2 (9) rfl rfl ?_
      refine f_k1 hH rfl rfl rfl rfl rfl ?_
      refine f_if rfl (by omega) (fun c => absurd rfl c) (fun c => ?_)
      have c : ¬ (¬ (0 : Int) = (0 : Int)) := c
      refine f_bipush (n := -2) rfl (by decide) ?_
      exact f_ret1 rfl ⟨⟨_, rfl⟩, rfl⟩
  · rw [if_neg hp] at hP
    refine f_aln 0 rfl hL rfl ?_
    refine f_iln 1 rfl hL rfl ?_
    refine f_k1 hP rfl rfl rfl (f_ar_v hq rfl) rfl ?_
    refine f_if rfl (by omega) (fun c => absurd rfl c) (fun c => ?_)
    have c : ¬ (¬ (0 : Int) = (0 : Int)) := c
    refine f_s [fi (-1)] rfl rfl ?_
    exact f_ret1 rfl ⟨⟨_, rfl⟩, rfl⟩
def yct184_0 : yCt := ([(2, Int.ofNat 55, Int.ofNat 55, false), (0, Int.negSucc 2147483647, Int.ofNat 2147483647, false), (0, Int.negSucc 2147483647, Int.ofNat 2147483647, false), (0, Int.ofNat 0, Int.ofNat 1, false)], (some (0, Int.negSucc 2147483647, Int.ofNat 2147483647, false)), [])
theorem yc184_0 : y_Mca yG 184 yct184_0 := y_Mca_of (r := ev_r184) rfl (fun hc as hin ha => by
  obtain ⟨v0, as, rfl, h0, ha⟩ := f_args1 ha
  obtain ⟨v1, as, rfl, h1, ha⟩ := f_args1 ha
  obtain ⟨v2, as, rfl, h2, ha⟩ := f_args1 ha
  obtain ⟨v3, as, rfl, h3, ha⟩ := f_args1 ha
  have := f_args0 ha
  subst this
  have := f_argr h0
  subst this
  obtain ⟨p, rfl, p1, p2⟩ := f_argi h1
  obtain ⟨h, rfl, g1, g2⟩ := f_argi h2
  obtain ⟨u, rfl, u1, u2⟩ := f_argi h3
  obtain ⟨cc, hq, fs, rfl, hf⟩ := hin 55 _ rfl
  obtain ⟨v0, w0, k0⟩ := hf 0 _ rfl
  obtain ⟨v1, w1, k1⟩ := hf 1 _ rfl
  obtain ⟨v6, w6, k6⟩ := hf 6 _ rfl
  obtain ⟨v7, w7, k7⟩ := hf 7 _ rfl
  obtain ⟨nm, rfl, nm1, nm2⟩ := f_argi (v := v0) (lo := Int.ofNat 0) (hi := Int.ofNat 4) k0
  obtain ⟨pp, rfl, pp1, pp2⟩ := f_argi (v := v1) (lo := Int.ofNat 0) (hi := Int.ofNat 5) k1
  have k6 : v6 = .ref 60 := k6
  have k7 : v7 = .ref 61 := k7
  subst k6
  subst k7
  obtain ⟨c60, hxs, xs, rfl, lxs, -⟩ := hin 60 _ rfl
  obtain ⟨c61, hns, ns, rfl, lns, -⟩ := hin 61 _ rfl
  refine f_W_mono (f184 hin hq w0 w1 w6 w7 nm1 nm2 pp1 pp2 hxs lxs hns lns p1 p2 g1 g2 u1 u2) (fun r h' hr => ?_)
  obtain ⟨⟨z, rfl⟩, rfl⟩ := hr
  exact ⟨⟨by decide, _, rfl, f_rAi⟩, hin, fun q i _ => rfl⟩)
noncomputable def ycs184 : List yCt := [yct184_0]
theorem yCs184 : ∀ ct ∈ ycs184, y_Mca yG 184 ct := (y_l1 yc184_0 y_l0)
