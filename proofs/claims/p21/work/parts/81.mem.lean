/-! the heap as numbers: gi at a location; shapes without ranges; rows over them -/
def y_wF (f : yF) : yF := match f.1 with
  | 0 => (0, -2147483648, 2147483647, false)
  | 1 => (1, -9223372036854775808, 9223372036854775807, false)
  | _ => f
def y_wC (c : yC) : yC := (c.1, c.2.1, c.2.2.1, c.2.2.2.map (fun l => l.map y_wF))
def yGw : yQ := yG.map (fun l => l.map y_wC)
theorem x_g_map {α β : Type} (f : α → β) (d : List (List α)) (i : Nat) : x_g (d.map (fun l => l.map f)) i = (x_g d i).map f := by
  unfold x_g
  rw [x_n_eq, x_n_eq, List.getElem?_map]
  cases d[i / 8]? with
  | none => rfl
  | some r =>
    show x_n (r.map f) (i % 8) = (x_n r (i % 8)).map f
    rw [x_n_eq, x_n_eq, List.getElem?_map]
theorem y_wF_ok {f : yF} {v : Value} (h : y_rF f v) : y_rF (y_wF f) v := by
  obtain ⟨k, e⟩ := f
  match k, h with
  | 0, h =>
    obtain ⟨z, rfl, -⟩ := h
    exact ⟨z, rfl, Or.inl (f_i32 z)⟩
  | 1, h =>
    obtain ⟨z, rfl, -⟩ := h
    exact ⟨z, rfl, Or.inl ⟨z.le_toInt, by have := z.toInt_lt; show _ ≤ (9223372036854775807 : Int); omega⟩⟩
  | k + 2, h => exact h
theorem y_wC_ok {c : yC} {cc : ev_C} (h : y_rC c cc) : y_rC (y_wC c) cc := by
  obtain ⟨k, c1, c2, c3⟩ := c
  match k, h with
  | 0, h =>
    obtain ⟨xs, rfl, h2, h3⟩ := h
    refine ⟨xs, rfl, h2, fun i f z hf hz => ?_⟩
    have hf : x_g (c3.map (fun l => l.map y_wF)) i = some f := hf
    rw [x_g_map] at hf
    cases hg : x_g c3 i with
    | none => rw [hg] at hf; cases hf
    | some g =>
      rw [hg] at hf
      cases hf
      obtain ⟨g1, g2⟩ := g
      match g1 with
      | 0 => exact Or.inl (f_i32 z)
      | 1 => exact Or.inl ⟨by have := (f_i32 z).1; show (-9223372036854775808 : Int) ≤ _; omega, by have := (f_i32 z).2; show _ ≤ (9223372036854775807 : Int); omega⟩
      | k + 2 => exact h3 i _ z hg hz
  | 1, h => exact h
  | k + 2, h =>
    obtain ⟨fs, rfl, h3⟩ := h
    refine ⟨fs, rfl, fun i f hf => ?_⟩
    have hf : x_g (c3.map (fun l => l.map y_wF)) i = some f := hf
    rw [x_g_map] at hf
    cases hg : x_g c3 i with
    | none => rw [hg] at hf; cases hf
    | some g =>
      rw [hg] at hf
      cases hf
      obtain ⟨v, v1, v2⟩ := h3 i g hg
      exact ⟨v, v1, y_wF_ok v2⟩
theorem y_win {hc : ev_H} (h : y_in yG hc) : y_in yGw hc := fun q c hq => by
  have hq : x_g (yG.map (fun l => l.map y_wC)) q = some c := hq
  rw [x_g_map] at hq
  cases hg : x_g yG q with
  | none => rw [hg] at hq; cases hq
  | some g =>
    rw [hg] at hq
    cases hq
    obtain ⟨cc, h1, h2⟩ := h q g hg
    exact ⟨cc, h1, y_wC_ok h2⟩
theorem m_xg {α : Type} {d : List (List α)} {i : Nat} {v : α} (h : x_g d i = some v) : i < 8 * d.length := by
  unfold x_g at h
  rw [x_n_eq] at h
  cases hr : d[i / 8]? with
  | none => rw [hr] at h; cases h
  | some r =>
    have := (List.getElem?_eq_some_iff.mp hr).1
    omega
/-- the number at a location -/
def gi (hc : ev_H) (q i : Nat) : Int := match y_get hc q i with
  | some (.int z) => z.toInt
  | _ => 0
def up (m : Nat → Nat → Int) (q i : Nat) (v : Int) : Nat → Nat → Int := fun q' i' => if q' = q ∧ i' = i then v else m q' i'
theorem up_eq {m : Nat → Nat → Int} {q i : Nat} {v : Int} : up m q i v q i = v := if_pos ⟨rfl, rfl⟩
theorem up_ne {m : Nat → Nat → Int} {q i q' i' : Nat} {v : Int} (h : ¬ (q' = q ∧ i' = i)) : up m q i v q' i' = m q' i' := if_neg h
theorem gi_of {hc : ev_H} {q i : Nat} {z : Int32} (h : y_get hc q i = some (.int z)) : gi hc q i = z.toInt := by unfold gi; rw [h]
theorem gi_v {hc : ev_H} {q i : Nat} {z : Int32} (h : y_get hc q i = some (.int z)) : Value.int z = fi (gi hc q i) := by rw [gi_of h]; exact f_fi
/-- shapes of cells: an object (its class; of each field: none, a number; some q: the cell q; a long: not told), an array, a row of cells -/
def h_O (q c : Nat) (ks : List (Option Nat)) : Prop := ∀ hc, y_in yGw hc → ∃ fs : List Value, hc[q]? = some (.inr (.inr (c, fs))) ∧ (∀ i : Nat, ks[i]? = some none → ∃ z : Int32, fs[i]? = some (Value.int z)) ∧ (∀ (i r : Nat), ks[i]? = some (some r) → r < 900 → fs[i]? = some (Value.ref r)) ∧ (∀ (i : Nat) (w : Value), ks[i]? = some none → (∃ z : Int32, w = Value.int z) → y_in yGw (hc.set q (.inr (.inr (c, fs.set i w)))))
def h_A (q t n : Nat) : Prop := ∀ hc, y_in yGw hc → ∃ xs : List Int32, hc[q]? = some (.inl (t, xs)) ∧ xs.length = n ∧ ∀ ys : List Int32, ys.length = n → y_in yGw (hc.set q (.inl (t, ys)))
def h_R (q b n : Nat) : Prop := ∀ hc, y_in yGw hc → hc[q]? = some (.inr (.inl ((List.range n).map (fun i => b + i))))
def h_k1 (f : yF) (k : Option Nat) : Bool := match k with
  | none => Nat.beq f.1 0 && (x_eq f.2.1 (-2147483648) && x_eq f.2.2.1 2147483647)
  | some r => Nat.ble 900 r || (Nat.ble 2 f.1 && Nat.beq r f.2.1.toNat)
noncomputable def h_ks (c : yC) (ks : List (Option Nat)) : Bool := (List.range ks.length).all (fun i => match x_g c.2.2.2 i with
  | some f => h_k1 f (ks.getD i none)
  | none => false)
theorem h_O_of {q c : Nat} {ks : List (Option Nat)} {cy : yC} (hy : x_g yGw q = some cy) (h2 : cy.1 = 2) (hc1 : cy.2.1 = c) (hk : h_ks cy ks = true) : h_O q c ks := fun hc hw => by
  obtain ⟨cc, h1, h3⟩ := hw q cy hy
  obtain ⟨y1, y2, y3, y4⟩ := cy
  have h2 : y1 = 2 := h2
  have hc1 : y2 = c := hc1
  subst h2
  subst hc1
  obtain ⟨fs, rfl, e2⟩ := h3
  have at_ : ∀ (i : Nat) (k : Option Nat), ks[i]? = some k → ∃ f, x_g y4 i = some f ∧ h_k1 f k = true := fun i k hi => by
    have h9 := List.all_eq_true.mp hk i (List.mem_range.mpr (List.getElem?_eq_some_iff.mp hi).1)
    rw [List.getD_eq_getElem?_getD, hi] at h9
    have h8 : (match x_g y4 i with
      | some f => h_k1 f k
      | none => false) = true := h9
    cases hf : x_g y4 i with
    | none => rw [hf] at h8; cases h8
    | some f => rw [hf] at h8; exact ⟨f, rfl, h8⟩
  refine ⟨fs, h1, fun i hi => ?_, fun i r hi hr9 => ?_, fun i w hi hz => ?_⟩
  · obtain ⟨f, f1, f2⟩ := at_ i none hi
    obtain ⟨v, v1, v2⟩ := e2 i f f1
    obtain ⟨f0, fe⟩ := f
    simp only [h_k1, Bool.and_eq_true] at f2
    have f20 : f0 = 0 := Nat.eq_of_beq_eq_true f2.1
    subst f20
    obtain ⟨z, rfl, -⟩ := v2
    exact ⟨z, v1⟩
  · obtain ⟨f, f1, f2⟩ := at_ i (some r) hi
    obtain ⟨v, v1, v2⟩ := e2 i f f1
    obtain ⟨f0, fe⟩ := f
    have hb9 : Nat.ble 900 r = false := by
      cases hb : Nat.ble 900 r with
      | false => rfl
      | true => have := Nat.le_of_ble_eq_true hb; omega
    simp only [h_k1, hb9, Bool.false_or, Bool.and_eq_true] at f2
    have f20 := Nat.le_of_ble_eq_true f2.1
    have f21 : r = fe.1.toNat := Nat.eq_of_beq_eq_true f2.2
    match f0, f20, v2 with
    | k + 2, _, v2 =>
      have v2 : v = .ref fe.1.toNat := v2
      rw [v1, v2, f21]
  · refine y_in_set hw (fun c' hc' => ?_) (List.getElem?_eq_some_iff.mp h1).1
    rw [hy] at hc'
    cases hc'
    refine ⟨fs.set i w, rfl, fun j g hg => ?_⟩
    obtain ⟨v, v1, v2⟩ := e2 j g hg
    by_cases hij : i = j
    · subst hij
      refine ⟨w, by rw [List.getElem?_set_self (List.getElem?_eq_some_iff.mp v1).1], ?_⟩
      obtain ⟨f, f1, f2⟩ := at_ i none hi
      have hg : x_g y4 i = some g := hg
      rw [f1] at hg
      cases hg
      obtain ⟨f0, fa, fb, fc⟩ := g
      simp only [h_k1, Bool.and_eq_true] at f2
      have f20 : f0 = 0 := Nat.eq_of_beq_eq_true f2.1
      have f21 : fa = -2147483648 := x_eq_iff.mp f2.2.1
      have f22 : fb = 2147483647 := x_eq_iff.mp f2.2.2
      subst f20
      subst f21
      subst f22
      obtain ⟨z, rfl⟩ := hz
      exact ⟨z, rfl, Or.inl (f_i32 z)⟩
    · exact ⟨v, by rw [List.getElem?_set_ne hij]; exact v1, v2⟩
theorem h_A_of {q t n : Nat} {cy : yC} (hy : x_g yGw q = some cy) (h2 : cy.1 = 0) (ht : cy.2.1 = t) (hn : cy.2.2.1 = n) (hk : ((List.range (8 * cy.2.2.2.length)).all (fun i => match x_g cy.2.2.2 i with
  | some f => Nat.beq f.1 0 && (x_eq f.2.1 (-2147483648) && x_eq f.2.2.1 2147483647)
  | none => true)) = true) : h_A q t n := fun hc hw => by
  obtain ⟨cc, h1, h3⟩ := hw q cy hy
  obtain ⟨y1, y2, y3, y4⟩ := cy
  have h2 : y1 = 0 := h2
  have ht : y2 = t := ht
  have hn : y3 = n := hn
  subst h2
  subst ht
  subst hn
  obtain ⟨xs, rfl, e1, e2⟩ := h3
  refine ⟨xs, h1, e1, fun ys hl => ?_⟩
  refine y_in_set hw (fun c' hc' => ?_) (List.getElem?_eq_some_iff.mp h1).1
  rw [hy] at hc'
  cases hc'
  refine ⟨ys, rfl, hl, fun i f z hf hz => ?_⟩
  have hf : x_g y4 i = some f := hf
  have := List.all_eq_true.mp hk i (List.mem_range.mpr (m_xg hf))
  rw [show x_g (0, y2, y3, y4).2.2.2 i = some f from hf] at this
  simp only [Bool.and_eq_true] at this
  have f21 := x_eq_iff.mp this.2.1
  have f22 := x_eq_iff.mp this.2.2
  have r := f_i32 z
  exact Or.inl ⟨by rw [f21]; exact r.1, by rw [f22]; exact r.2⟩
theorem h_R_of {q b n : Nat} {cy : yC} (hy : x_g yGw q = some cy) (h2 : cy.1 = 1) (hb : cy.2.1 = b) (hn : cy.2.2.1 = n) : h_R q b n := fun hc hw => by
  obtain ⟨cc, h1, h3⟩ := hw q cy hy
  obtain ⟨y1, y2, y3, y4⟩ := cy
  have h2 : y1 = 1 := h2
  have hb : y2 = b := hb
  have hn : y3 = n := hn
  subst h2
  subst hb
  subst hn
  have h3 : cc = .inr (.inl ((List.range y3).map (fun i => y2 + i))) := h3
  rw [h1, h3]
/-- a method over numbers: from cells of the shape with the numbers m to such with the numbers m' -/
def h_M (a : Nat) (as : List Value) (m : Nat → Nat → Int) (r : Option Value) (m' : Nat → Nat → Int) : Prop := ∀ hc, y_in yGw hc → gi hc = m → ∃ hc', f_M a as hc r hc' ∧ y_in yGw hc' ∧ gi hc' = m'
theorem h_M_of {a : Nat} {as : List Value} {m m' : Nat → Nat → Int} {r : Option Value} {R : ev_R} (hR : ev_ms a = some R) (h : ∀ hc, y_in yGw hc → gi hc = m → x_W none R.1 0 (lv_args 0 as) [] hc 0 0 (fun r' h' => r' = r ∧ y_in yGw h' ∧ gi h' = m')) : h_M a as m r m' := fun hc hw hm => by
  obtain ⟨n, r', h', e, e1, e2, e3⟩ := h hc hw hm
  subst e1
  refine ⟨h', fun R' hR' => ?_, e2, e3⟩
  rw [hR] at hR'
  cases hR'
  exact ⟨n, e⟩
section MRO
variable {sc : Option (List Int32)} {rt ini mx na rc fr lo mc ms : Nat} {t : ev_T} {pc : Nat} {Lc : ev_L} {stc : List Value} {hc : ev_H} {kc ks : Nat} {Q : Option Value → ev_H → Prop}
variable {pp0 a b pp : Nat} {i : Instr} {v : Value} {l : List (Nat × Value)} {m : Nat → Nat → Int}
theorem m_gfi {q c k : Nat} {kk : List (Option Nat)} (ho : h_O q c kk) (x : Int) (hf : ev_f t pc = some (pp0, .getfield k, c, b, pp, v)) (hw : y_in yGw hc) (hm : gi hc = m) (hk : kk[b]? = some none) (hx : m q b = x) (h : x_W sc (rt, ini, mx, na, rc, fr, lo, mc, ms, t) (pc + 3) Lc (fi x :: stc) hc kc ks Q) : x_W sc (rt, ini, mx, na, rc, fr, lo, mc, ms, t) pc Lc (.ref q :: stc) hc kc ks Q := by
  obtain ⟨fs, hq, h1, h2, h3⟩ := ho hc hw
  obtain ⟨z, hz⟩ := h1 b hk
  refine f_gf hf hq hz ?_
  rw [gi_v (hc := hc) (q := q) (i := b) (by rw [f_get_o hq]; exact hz), hm, hx]
  exact h
theorem m_gfr {q c k r : Nat} {kk : List (Option Nat)} (ho : h_O q c kk) (hf : ev_f t pc = some (pp0, .getfield k, c, b, pp, v)) (hw : y_in yGw hc) (hk : kk[b]? = some (some r)) (hr : r < 900) (h : x_W sc (rt, ini, mx, na, rc, fr, lo, mc, ms, t) (pc + 3) Lc (.ref r :: stc) hc kc ks Q) : x_W sc (rt, ini, mx, na, rc, fr, lo, mc, ms, t) pc Lc (.ref q :: stc) hc kc ks Q := by
  obtain ⟨fs, hq, h1, h2, h3⟩ := ho hc hw
  exact f_gf hf hq (h2 b r hk hr) h
theorem gi_set_o {q c k : Nat} {fs : List Value} {x : Int} (hq : hc[q]? = some (.inr (.inr (c, fs)))) (hk : k < fs.length) (hx : -2147483648 ≤ x ∧ x ≤ 2147483647) : gi (hc.set q (.inr (.inr (c, fs.set k (fi x))))) = up (gi hc) q k x := by
  funext q' i'
  unfold gi up
  rw [y_get_setO hq hk]
  by_cases h : q' = q ∧ i' = k
  · rw [if_pos h, if_pos h]
    exact x_i32 hx.1 hx.2
  · rw [if_neg h, if_neg h]
theorem gi_set_a {q tt k : Nat} {xs : List Int32} {y : Int32} {x : Int} (hq : hc[q]? = some (.inl (tt, xs))) (hk : k < xs.length) (hx : y.toInt = x) : gi (hc.set q (.inl (tt, xs.set k y))) = up (gi hc) q k x := by
  funext q' i'
  unfold gi up
  rw [y_get_setA hq hk]
  by_cases h : q' = q ∧ i' = k
  · rw [if_pos h, if_pos h]
    exact hx
  · rw [if_neg h, if_neg h]
theorem m_pf {q c k : Nat} {kk : List (Option Nat)} (ho : h_O q c kk) {x : Int} (hf : ev_f t pc = some (pp0, .putfield k, c, b, pp, v)) (hw : y_in yGw hc) (hm : gi hc = m) (hk : kk[b]? = some none) (hok : f_pfok c b ini (fi x) = true) (hx : -2147483648 ≤ x ∧ x ≤ 2147483647) (h : ∀ hc', y_in yGw hc' → gi hc' = up m q b x → x_W sc (rt, ini, mx, na, rc, fr, lo, mc, ms, t) (pc + 3) Lc stc hc' kc ks Q) : x_W sc (rt, ini, mx, na, rc, fr, lo, mc, ms, t) pc Lc (fi x :: .ref q :: stc) hc kc ks Q := by
  obtain ⟨fs, hq, h1, h2, h3⟩ := ho hc hw
  obtain ⟨z, hz⟩ := h1 b hk
  have hl := (List.getElem?_eq_some_iff.mp hz).1
  exact f_pf hf hq hl hok (h _ (h3 b _ hk ⟨_, rfl⟩) (by rw [gi_set_o hq hl hx, hm]))
theorem m_ia {q n : Nat} (ha : h_A q 0 n) {j : Int} (x : Int) (hf : ev_f t pc = some (pp0, .iaload, a, b, pp, v)) (hw : y_in yGw hc) (hm : gi hc = m) (j1 : 0 ≤ j) (j2 : j < n) (hn : n ≤ 1000) (hx : m q j.toNat = x) (h : x_W sc (rt, ini, mx, na, rc, fr, lo, mc, ms, t) (pc + 1) Lc (fi x :: stc) hc kc ks Q) : x_W sc (rt, ini, mx, na, rc, fr, lo, mc, ms, t) pc Lc (fi j :: .ref q :: stc) hc kc ks Q := by
  obtain ⟨xs, hq, hl, -⟩ := ha hc hw
  have hj : j.toNat < xs.length := by omega
  have hz : xs[j.toNat]? = some xs[j.toNat] := List.getElem?_eq_getElem hj
  refine f_ia hf hq j1 (by omega) hz ?_
  rw [gi_v (hc := hc) (q := q) (i := j.toNat) (by unfold y_get; rw [hq]; show (xs[j.toNat]?).map _ = _; rw [hz]; rfl), hm, hx]
  exact h
theorem m_ias {q n : Nat} (ha : h_A q 0 n) {j x : Int} (hf : ev_f t pc = some (pp0, .iastore, a, b, pp, v)) (hw : y_in yGw hc) (hm : gi hc = m) (j1 : 0 ≤ j) (j2 : j < n) (hn : n ≤ 1000) (hx : -2147483648 ≤ x ∧ x ≤ 2147483647) (h : ∀ hc', y_in yGw hc' → gi hc' = up m q j.toNat x → x_W sc (rt, ini, mx, na, rc, fr, lo, mc, ms, t) (pc + 1) Lc stc hc' kc ks Q) : x_W sc (rt, ini, mx, na, rc, fr, lo, mc, ms, t) pc Lc (fi x :: fi j :: .ref q :: stc) hc kc ks Q := by
  obtain ⟨xs, hq, hl, hs⟩ := ha hc hw
  have hj : j.toNat < xs.length := by omega
  exact f_ias hf hq j1 (by omega) hj (h _ (hs _ (by rw [List.length_set]; exact hl)) (by rw [gi_set_a hq hj (x_i32 hx.1 hx.2), hm]))
theorem m_al {q k n : Nat} (ha : h_A q k n) (hf : ev_f t pc = some (pp0, .arraylength, a, b, pp, v)) (hw : y_in yGw hc) (hk : k < 3) (h : x_W sc (rt, ini, mx, na, rc, fr, lo, mc, ms, t) (pc + 1) Lc (fi (n : Int) :: stc) hc kc ks Q) : x_W sc (rt, ini, mx, na, rc, fr, lo, mc, ms, t) pc Lc (.ref q :: stc) hc kc ks Q := by
  obtain ⟨xs, hq, hl, -⟩ := ha hc hw
  exact f_alen hf hq hk (by rw [hl]) h
theorem m_ar {q c na9 : Nat} {kk : List (Option Nat)} {st r : List Value} (ho : h_O q c kk) (hw : y_in yGw hc) (hd : st.drop na9 = .ref q :: r) : ev_ar (c + 1) na9 st hc = some (.ref q :: (st.take na9).reverse, r) := by
  obtain ⟨fs, hq, -⟩ := ho hc hw
  exact f_ar_v hq hd
theorem m_k1 {rt' ini' mx' na' rc' fr' lo' mc' ms' : Nat} {t' : ev_T} {q9 : MethodName × ByteArray × Option FieldType × Nat × Nat × Nat × Nat} {as r : List Value} {w : Value} {m' : Nat → Nat → Int} (hM : h_M a as m (some w) m') (hw : y_in yGw hc) (hm : gi hc = m) (hf : ev_f t pc = some (pp0, i, a, b, pp, v)) (hk : ev_k i b = some 0) (hm9 : ev_ms a = some ((rt', ini', mx', na', rc', fr', lo', mc', ms', t'), q9)) (har : ev_ar rc' na' stc hc = some (as, r))
    (hcd : (ev_fit i (rt', ini', mx', na', rc', fr', lo', mc', ms', t') && (Nat.ble (fr' + 1) fr && (Nat.ble (8 + (mx' + 11) + lo') lo && (Nat.ble (ev_sum r) 8 && (Nat.ble (ev_sum as) mx' && (Nat.ble (kc + mc') mc && Nat.ble (ks + ms') ms)))))) = true)
    (h : ∀ hc', y_in yGw hc' → gi hc' = m' → x_W sc (rt, ini, mx, na, rc, fr, lo, mc, ms, t) (pc + 3) Lc (w :: r) hc' (kc + mc') (ks + ms') Q) : x_W sc (rt, ini, mx, na, rc, fr, lo, mc, ms, t) pc Lc stc hc kc ks Q := by
  obtain ⟨hc', e1, e2, e3⟩ := hM hc hw hm
  exact f_k1 e1 hf hk hm9 har hcd (h hc' e2 e3)
theorem m_k0 {rt' ini' mx' na' rc' fr' lo' mc' ms' : Nat} {t' : ev_T} {q9 : MethodName × ByteArray × Option FieldType × Nat × Nat × Nat × Nat} {as r : List Value} {m' : Nat → Nat → Int} (hM : h_M a as m none m') (hw : y_in yGw hc) (hm : gi hc = m) (hf : ev_f t pc = some (pp0, i, a, b, pp, v)) (hk : ev_k i b = some 0) (hm9 : ev_ms a = some ((rt', ini', mx', na', rc', fr', lo', mc', ms', t'), q9)) (har : ev_ar rc' na' stc hc = some (as, r))
    (hcd : (ev_fit i (rt', ini', mx', na', rc', fr', lo', mc', ms', t') && (Nat.ble (fr' + 1) fr && (Nat.ble (8 + (mx' + 11) + lo') lo && (Nat.ble (ev_sum r) 8 && (Nat.ble (ev_sum as) mx' && (Nat.ble (kc + mc') mc && Nat.ble (ks + ms') ms)))))) = true)
    (h : ∀ hc', y_in yGw hc' → gi hc' = m' → x_W sc (rt, ini, mx, na, rc, fr, lo, mc, ms, t) (pc + 3) Lc r hc' (kc + mc') (ks + ms') Q) : x_W sc (rt, ini, mx, na, rc, fr, lo, mc, ms, t) pc Lc stc hc kc ks Q := by
  obtain ⟨hc', e1, e2, e3⟩ := hM hc hw hm
  exact f_k0 e1 hf hk hm9 har hcd (h hc' e2 e3)
theorem m_get_a {q tt : Nat} {xs : List Int32} {k : Nat} {z : Int32} (hq : hc[q]? = some (.inl (tt, xs))) (hz : xs[k]? = some z) : y_get hc q k = some (.int z) := by
  unfold y_get
  rw [hq]
  show (xs[k]?).map _ = _
  rw [hz]
  rfl
theorem m_ca {q n : Nat} (ha : h_A q 1 n) {j : Int} (x : Int) (hf : ev_f t pc = some (pp0, .caload, a, b, pp, v)) (hw : y_in yGw hc) (hm : gi hc = m) (j1 : 0 ≤ j) (j2 : j < n) (hn : n ≤ 1000) (hx : m q j.toNat = x) (h : x_W sc (rt, ini, mx, na, rc, fr, lo, mc, ms, t) (pc + 1) Lc (fi x :: stc) hc kc ks Q) : x_W sc (rt, ini, mx, na, rc, fr, lo, mc, ms, t) pc Lc (fi j :: .ref q :: stc) hc kc ks Q := by
  obtain ⟨xs, hq, hl, -⟩ := ha hc hw
  have hj : j.toNat < xs.length := by omega
  have hz : xs[j.toNat]? = some xs[j.toNat] := List.getElem?_eq_getElem hj
  obtain ⟨hi, en⟩ := f_in_ok (n := xs.length) j1 (by omega) hj
  refine x_W_h hf (st' := fi x :: stc) (hc' := hc) ?_ h
  unfold ev_h
  dsimp only
  rw [hq]
  show (match ev_inn (Int32.ofInt j) xs.length with
    | true => some (Value.int (xs.getD (Int32.ofInt j).toNatClampNeg 0) :: stc, hc)
    | false => none) = _
  rw [hi, en, List.getD_eq_getElem?_getD, hz]
  show some (Value.int xs[j.toNat] :: stc, hc) = _
  rw [gi_v (m_get_a hq hz), hm, hx]
theorem m_ba {q n : Nat} (ha : h_A q 2 n) {j : Int} (x : Int) (hf : ev_f t pc = some (pp0, .baload, a, b, pp, v)) (hw : y_in yGw hc) (hm : gi hc = m) (j1 : 0 ≤ j) (j2 : j < n) (hn : n ≤ 1000) (hx : m q j.toNat = x) (h : x_W sc (rt, ini, mx, na, rc, fr, lo, mc, ms, t) (pc + 1) Lc (fi x :: stc) hc kc ks Q) : x_W sc (rt, ini, mx, na, rc, fr, lo, mc, ms, t) pc Lc (fi j :: .ref q :: stc) hc kc ks Q := by
  obtain ⟨xs, hq, hl, -⟩ := ha hc hw
  have hj : j.toNat < xs.length := by omega
  have hz : xs[j.toNat]? = some xs[j.toNat] := List.getElem?_eq_getElem hj
  obtain ⟨hi, en⟩ := f_in_ok (n := xs.length) j1 (by omega) hj
  refine x_W_h hf (st' := fi x :: stc) (hc' := hc) ?_ h
  unfold ev_h
  dsimp only
  rw [hq]
  show (match ev_inn (Int32.ofInt j) xs.length with
    | true => some (Value.int (xs.getD (Int32.ofInt j).toNatClampNeg 0) :: stc, hc)
    | false => none) = _
  rw [hi, en, List.getD_eq_getElem?_getD, hz]
  show some (Value.int xs[j.toNat] :: stc, hc) = _
  rw [gi_v (m_get_a hq hz), hm, hx]
theorem m_cas {q n : Nat} (ha : h_A q 1 n) {j x : Int} (hf : ev_f t pc = some (pp0, .castore, a, b, pp, v)) (hw : y_in yGw hc) (hm : gi hc = m) (j1 : 0 ≤ j) (j2 : j < n) (hn : n ≤ 1000) (hx : 0 ≤ x ∧ x ≤ 65535) (h : ∀ hc', y_in yGw hc' → gi hc' = up m q j.toNat x → x_W sc (rt, ini, mx, na, rc, fr, lo, mc, ms, t) (pc + 1) Lc stc hc' kc ks Q) : x_W sc (rt, ini, mx, na, rc, fr, lo, mc, ms, t) pc Lc (fi x :: fi j :: .ref q :: stc) hc kc ks Q := by
  obtain ⟨xs, hq, hl, hs⟩ := ha hc hw
  have hj : j.toNat < xs.length := by omega
  have hnar : vp_nar .char (Int32.ofInt x) = Int32.ofInt x := by
    have e := x_nchar hx.1 hx.2
    unfold vp_nar
    rw [e]
  exact f_cas hf hq j1 (by omega) hj (h _ (hs _ (by rw [List.length_set]; exact hl)) (by rw [gi_set_a (x := x) hq hj (by rw [hnar]; exact x_i32 (by omega) (by omega)), hm]))
theorem m_bas {q n : Nat} (ha : h_A q 2 n) {j x : Int} (hf : ev_f t pc = some (pp0, .bastore, a, b, pp, v)) (hw : y_in yGw hc) (hm : gi hc = m) (j1 : 0 ≤ j) (j2 : j < n) (hn : n ≤ 1000) (hx : x = 0 ∨ x = 1) (h : ∀ hc', y_in yGw hc' → gi hc' = up m q j.toNat x → x_W sc (rt, ini, mx, na, rc, fr, lo, mc, ms, t) (pc + 1) Lc stc hc' kc ks Q) : x_W sc (rt, ini, mx, na, rc, fr, lo, mc, ms, t) pc Lc (fi x :: fi j :: .ref q :: stc) hc kc ks Q := by
  obtain ⟨xs, hq, hl, hs⟩ := ha hc hw
  have hj : j.toNat < xs.length := by omega
  obtain ⟨hi, en⟩ := f_in_ok (n := xs.length) j1 (by omega) hj
  have hnar : (vp_nar .boolean (Int32.ofInt x)).toInt = x := by
    rcases hx with rfl | rfl <;> rfl
  refine x_W_h hf (st' := stc) (hc' := hc.set q (.inl (2, xs.set j.toNat (vp_nar .boolean (Int32.ofInt x))))) ?_ (h _ (hs _ (by rw [List.length_set]; exact hl)) (by rw [gi_set_a hq hj hnar, hm]))
  unfold ev_h
  dsimp only
  rw [hq]
  show (match ev_inn (Int32.ofInt j) xs.length with
    | true => some (stc, hc.set q (.inl (2, xs.set (Int32.ofInt j).toNatClampNeg (vp_nar .boolean (Int32.ofInt x)))))
    | false => none) = _
  rw [hi, en]
theorem m_aa {q b9 n : Nat} (hr : h_R q b9 n) {j : Int} (hf : ev_f t pc = some (pp0, .aaload, a, b, pp, v)) (hw : y_in yGw hc) (j1 : 0 ≤ j) (j2 : j < n) (hn : n ≤ 1000) (h : x_W sc (rt, ini, mx, na, rc, fr, lo, mc, ms, t) (pc + 1) Lc (.ref (b9 + j.toNat) :: stc) hc kc ks Q) : x_W sc (rt, ini, mx, na, rc, fr, lo, mc, ms, t) pc Lc (fi j :: .ref q :: stc) hc kc ks Q := by
  have hq := hr hc hw
  have hl : ((List.range n).map (fun i => b9 + i)).length = n := by rw [List.length_map, List.length_range]
  obtain ⟨hi, en⟩ := f_in_ok (n := ((List.range n).map (fun i => b9 + i)).length) j1 (by omega) (by rw [hl]; omega)
  refine x_W_h hf (st' := .ref (b9 + j.toNat) :: stc) (hc' := hc) ?_ h
  unfold ev_h
  dsimp only
  rw [hq]
  show (match ev_inn (Int32.ofInt j) ((List.range n).map (fun i => b9 + i)).length with
    | true => some (Value.ref (((List.range n).map (fun i => b9 + i)).getD (Int32.ofInt j).toNatClampNeg 0) :: stc, hc)
    | false => none) = _
  rw [hi, en, List.getD_eq_getElem?_getD, List.getElem?_map, List.getElem?_range (by omega)]
  rfl
theorem m_ret3 {x : Int} (hf : ev_f t pc = some (pp0, .ireturn, a, b, pp, v)) (hx : 0 ≤ x ∧ x ≤ 65535) (h : Q (some (fi x)) hc) : x_W sc (3, ini, mx, na, rc, fr, lo, mc, ms, t) pc Lc [fi x] hc kc ks Q := x_W_r hf (r := some (fi x)) (by
  show (if narrow .char (.int (Int32.ofInt x)) = .int (Int32.ofInt x) then some (some (fi x)) else none) = _
  rw [if_pos (x_nchar hx.1 hx.2)]) h
theorem m_ret0 (hf : ev_f t pc = some (pp0, .return_, a, b, pp, v)) (h : Q none hc) : x_W sc (0, ini, mx, na, rc, fr, lo, mc, ms, t) pc Lc [] hc kc ks Q := x_W_r hf (r := none) rfl h
end MRO
