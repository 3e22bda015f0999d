/-! the heap as numbers: gi at a location; shapes without ranges; rows over them -/
def y_wF (f : yF) : yF := match f.1 with
  | 0 => (0, -2147483648, 2147483647, false)
  | 1 => (1, -9223372036854775808, 9223372036854775807, false)
  | _ => f
def y_wC (c : yC) : yC := (c.1, c.2.1, c.2.2.1, c.2.2.2.map (fun l => l.map y_wF))
def yGw : yQ := yG.map (fun l => l.map y_wC)
theorem x_g_map {α β : Type} (f : α → β) (d : List (List α)) (i : Nat) : x_g (d.map (fun l => l.map f)) i = (x_g d i).map f := by
  unfold x_g
  rw [x_n_eq, x_n_eq, List.getElem?_map]
  cases d[i / 8]? with
  | none => rfl
  | some r =>
    show x_n (r.map f) (i % 8) = (x_n r (i % 8)).map f
    rw [x_n_eq, x_n_eq, List.getElem?_map]
theorem y_wF_ok {f : yF} {v : Value} (h : y_rF f v) : y_rF (y_wF f) v := by
  obtain ⟨k, e⟩ := f
  match k, h with
  | 0, h =>
    obtain ⟨z, rfl, -⟩ := h
    exact ⟨z, rfl, Or.inl (f_i32 z)⟩
  | 1, h =>
    obtain ⟨z, rfl, -⟩ := h
    exact ⟨z, rfl, Or.inl ⟨z.le_toInt, by have := z.toInt_lt; show _ ≤ (9223372036854775807 : Int); omega⟩⟩
  | k + 2, h => exact h
theorem y_wC_ok {c : yC} {cc : ev_C} (h : y_rC c cc) : y_rC (y_wC c) cc := by
  obtain ⟨k, c1, c2, c3⟩ := c
  match k, h with
  | 0, h =>
    obtain ⟨xs, rfl, h2, h3⟩ := h
    refine ⟨xs, rfl, h2, fun i f z hf hz => ?_⟩
    have hf : x_g (c3.map (fun l => l.map y_wF)) i = some f := hf
    rw [x_g_map] at hf
    cases hg : x_g c3 i with
    | none => rw [hg] at hf; cases hf
    | some g =>
      rw [hg] at hf
      cases hf
      obtain ⟨g1, g2⟩ := g
      match g1 with
      | 0 => exact Or.inl (f_i32 z)
      | 1 => exact Or.inl ⟨by have := (f_i32 z).1; show (-9223372036854775808 : Int) ≤ _; omega, by have := (f_i32 z).2; show _ ≤ (9223372036854775807 : Int); omega⟩
      | k + 2 => exact h3 i _ z hg hz
  | 1, h => exact h
  | k + 2, h =>
    obtain ⟨fs, rfl, h3⟩ := h
    refine ⟨fs, rfl, fun i f hf => ?_⟩
    have hf : x_g (c3.map (fun l => l.map y_wF)) i = some f := hf
    rw [x_g_map] at hf
    cases hg : x_g c3 i with
    | none => rw [hg] at hf; cases hf
    | some g =>
      rw [hg] at hf
      cases hf
      obtain ⟨v, v1, v2⟩ := h3 i g hg
      exact ⟨v, v1, y_wF_ok v2⟩
theorem y_win {hc : ev_H} (h : y_in yG hc) : y_in yGw hc := fun q c hq => by
  have hq : x_g (yG.map (fun l => l.map y_wC)) q = some c := hq
  rw [x_g_map] at hq
  cases hg : x_g yG q with
  | none => rw [hg] at hq; cases hq
  | some g =>
    rw [hg] at hq
    cases hq
    obtain ⟨cc, h1, h2⟩ := h q g hg
    exact ⟨cc, h1, y_wC_ok h2⟩
theorem m_xg {α : Type} {d : List (List α)} {i : Nat} {v : α} (h : x_g d i = some v) : i < 8 * d.length := by
  unfold x_g at h
  rw [x_n_eq] at h
  cases hr : d[i / 8]? with
  | none => rw [hr] at h; cases h
  | some r =>
    have := (List.getElem?_eq_some_iff.mp hr).1
    omega
/-- the number at a location -/
def gi (hc : ev_H) (q i : Nat) : Int := match y_get hc q i with
  | some (.int z) => z.toInt
  | _ => 0
def up (m : Nat → Nat → Int) (q i : Nat) (v : Int) : Nat → Nat → Int := fun q' i' => if q' = q ∧ i' = i then v else m q' i'
theorem up_eq {m : Nat → Nat → Int} {q i : Nat} {v : Int} : up m q i v q i = v := if_pos ⟨rfl, rfl⟩
theorem up_ne {m : Nat → Nat → Int} {q i q' i' : Nat} {v : Int} (h : ¬ (q' = q ∧ i' = i)) : up m q i v q' i' = m q' i' := if_neg h
theorem gi_of {hc : ev_H} {q i : Nat} {z : Int32} (h : y_get hc q i = some (.int z)) : gi hc q i = z.toInt := by unfold gi; rw [h]
theorem gi_v {hc : ev_H} {q i : Nat} {z : Int32} (h : y_get hc q i = some (.int z)) : Value.int z = fi (gi hc q i) := by rw [gi_of h]; exact f_fi
/-- shapes of cells: an object (its class; of each field: none, a number; some q: the cell q; a long: not told), an array, a row of cells -/
def h_O (q c : Nat) (ks : List (Option Nat)) : Prop := ∀ hc, y_in yGw hc → ∃ fs : List Value, hc[q]? = some (.inr (.inr (c, fs))) ∧ (∀ i : Nat, ks[i]? = some none → ∃ z : Int32, fs[i]? = some (Value.int z)) ∧ (∀ (i r : Nat), ks[i]? = some (some r) → r < 900 → fs[i]? = some (Value.ref r)) ∧ (∀ (i : Nat) (w : Value), ks[i]? = some none → (∃ z : Int32, w = Value.int z) → y_in yGw (hc.set q (.inr (.inr (c, fs.set i w)))))
def h_A (q t n : Nat) : Prop := ∀ hc, y_in yGw hc → ∃ xs : List Int32, hc[q]? = some (.inl (t, xs)) ∧ xs.length = n ∧ ∀ ys : List Int32, ys.length = n → y_in yGw (hc.set q (.inl (t, ys)))
def h_R (q b n : Nat) : Prop := ∀ hc, y_in yGw hc → hc[q]? = some (.inr (.inl ((List.range n).map (fun i => b + i))))
def h_k1 (f : yF) (k : Option Nat) : Bool := match k with
  | none => Nat.beq f.1 0 && (x_eq f.2.1 (-2147483648) && x_eq f.2.2.1 2147483647)
  | some r => Nat.ble 900 r || (Nat.ble 2 f.1 && Nat.beq r f.2.1.toNat)
noncomputable def h_ks (c : yC) (ks : List (Option Nat)) : Bool := (List.range ks.length).all (fun i => match x_g c.2.2.2 i with
  | some f => h_k1 f (ks.getD i none)
  | none => false)
theorem h_O_of {q c : Nat} {ks : List (Option Nat)} {cy : yC} (hy : x_g yGw q = some cy) (h2 : cy.1 = 2) (hc1 : cy.2.1 = c) (hk : h_ks cy ks = true) : h_O q c ks := fun hc hw => by
  obtain ⟨cc, h1, h3⟩ := hw q cy hy
  obtain ⟨y1, y2, y3, y4⟩ := cy
  have h2 : y1 = 2 := h2
  have hc1 : y2 = c := hc1
  subst h2
  subst hc1
  obtain ⟨fs, rfl, e2⟩ := h3
  have at_ : ∀ (i : Nat) (k : Option Nat), ks[i]? = some k → ∃ f, x_g y4 i = some f ∧ h_k1 f k = true := fun i k hi => by
    have h9 := List.all_eq_true.mp hk i (List.mem_range.mpr (List.getElem?_eq_some_iff.mp hi).1)
    rw [List.getD_eq_getElem?_getD, hi] at h9
    have h8 : (match x_g y4 i with
      | some f => h_k1 f k
      | none => false) = true := h9
    cases hf : x_g y4 i with
    | none => rw [hf] at h8; cases h8
    | some f => rw [hf] at h8; exact ⟨f, rfl, h8⟩
  refine ⟨fs, h1, fun i hi => ?_, fun i r hi hr9 => ?_, fun i w hi hz => ?_⟩
  · obtain ⟨f, f1, f2⟩ := at_ i none hi
    obtain ⟨v, v1, v2⟩ := e2 i f f1
    obtain ⟨f0, fe⟩ := f
    simp only [h_k1, Bool.and_eq_true] at f2
    have f20 : f0 = 0 := Nat.eq_of_beq_eq_true f2.1
    subst f20
    obtain ⟨z, rfl, -⟩ := v2
    exact ⟨z, v1⟩
  · obtain ⟨f, f1, f2⟩ := at_ i (some r) hi
    obtain ⟨v, v1, v2⟩ := e2 i f f1
    obtain ⟨f0, fe⟩ := f
    have hb9 : Nat.ble 900 r = false := by
      cases hb : Nat.ble 900 r with
      | false => rfl
      | true => have := Nat.le_of_ble_eq_true hb; omega
    simp only [h_k1, hb9, Bool.false_or, Bool.and_eq_true] at f2
    have f20 := Nat.le_of_ble_eq_true f2.1
    have f21 : r = fe.1.toNat := Nat.eq_of_beq_eq_true f2.2
    match f0, f20, v2 with
    | k + 2, _, v2 =>
      have v2 : v = .ref fe.1.toNat := v2
      rw [v1, v2, f21]
  · refine y_in_set hw (fun c' hc' => ?_) (List.getElem?_eq_some_iff.mp h1).1
    rw [hy] at hc'
    cases hc'
    refine ⟨fs.set i w, rfl, fun j g hg => ?_⟩
    obtain ⟨v, v1, v2⟩ := e2 j g hg
    by_cases hij : i = j
    · subst hij
      refine ⟨w, by rw [List.getElem?_set_self (List.getElem?_eq_some_iff.mp v1).1], ?_⟩
      obtain ⟨f, f1, f2⟩ := at_ i none hi
      have hg : x_g y4 i = some g := hg
      rw [f1] at hg
      cases hg
      obtain ⟨f0, fa, fb, fc⟩ := g
      simp only [h_k1, Bool.and_eq_true] at f2
      have f20 : f0 = 0 := Nat.eq_of_beq_eq_true f2.1
      have f21 : fa = -2147483648 := x_eq_iff.mp f2.2.1
      have f22 : fb = 2147483647 := x_eq_iff.mp f2.2.2
      subst f20
      subst f21
      subst f22
      obtain ⟨z, rfl⟩ := hz
      exact ⟨z, rfl, Or.inl (f_i32 z)⟩
    · exact ⟨v, by rw [List.getElem?_set_ne hij]; exact v1, v2⟩
theorem h_A_of {q t n : Nat} {cy : yC} (hy : x_g yGw q = some cy) (h2 : cy.1 = 0) (ht : cy.2.1 = t) (hn : cy.2.2.1 = n) (hk : ((List.range (8 * cy.2.2.2.length)).all (fun i => match x_g cy.2.2.2 i with
  | some f => Nat.beq f.1 0 && (x_eq f.2.1 (-2147483648) && x_eq f.2.2.1 2147483647)
  | none => true)) = true) : h_A q t n := fun hc hw => by
  obtain ⟨cc, h1, h3⟩ := hw q cy hy
  obtain ⟨y1, y2, y3, y4⟩ := cy
  have h2 : y1 = 0 := h2
  have ht : y2 = t := ht
  have hn : y3 = n := hn
  subst h2
  subst ht
  subst hn
  obtain ⟨xs, rfl, e1, e2⟩ := h3
  refine ⟨xs, h1, e1, fun ys hl => ?_⟩
  refine y_in_set hw (fun c' hc' => ?_) (List.getElem?_eq_some_iff.mp h1).1
  rw [hy] at hc'
  cases hc'
  refine ⟨ys, rfl, hl, fun i f z hf hz => ?_⟩
  have hf : x_g y4 i = some f := hf
  have := List.all_eq_true.mp hk i (List.mem_range.mpr (m_xg hf))
  rw [show x_g (0, y2, y3, y4).2.2.2 i = some f from hf] at this
  simp only [Bool.and_eq_true] at this
  have f21 := x_eq_iff.mp this.2.1
  have f22 := x_eq_iff.mp this.2.2
  have r := f_i32 z
  exact Or.inl ⟨by rw [f21]; exact r.1, by rw [f22]; exact r.2⟩
theorem h_R_of {q b n : Nat} {cy : yC} (hy : x_g yGw q = some cy) (h2 : cy.1 = 1) (hb : cy.2.1 = b) (hn : cy.2.2.1 = n) : h_R q b n := fun hc hw => by
  obtain ⟨cc, h1, h3⟩ := hw q cy hy
  obtain ⟨y1, y2, y3, y4⟩ := cy
  have h2 : y1 = 1 := h2
  have hb : y2 = b := hb
  have hn : y3 = n := hn
  subst h2
  subst hb
  subst hn
  have h3 : cc = .inr (.inl ((List.range y3).map (fun i => y2 + i))) := h3
  rw [h1, h3]
/-- a method over numbers: from cells of the shape with the numbers m to such with the numbers m' -/
def h_M (a : Nat) (as : List Value) (m : Nat → Nat → Int) (r : Option Value) (m' : Nat → Nat → Int) : Prop := ∀ hc, y_in yGw hc → gi hc = m → ∃ hc', f_M a as hc r hc' ∧ y_in yGw hc' ∧ gi hc' = m'
theorem h_M_of {a : Nat} {as : List Value} {m m' : Nat → Nat → Int} {r : Option Value} {R : ev_R} (hR : ev_ms a = some R) (h : ∀ hc, y_in yGw hc → gi hc = m → x_W none R.1 0 (lv_args 0 as) [] hc 0 0 (fun r' h' => r' = r ∧ y_in yGw h' ∧ gi h' = m')) : h_M a as m r m' := fun hc hw hm => by
  obtain ⟨n, r', h', e, e1, e2, e3⟩ := h hc hw hm
  subst e1
  refine ⟨h', fun R' hR' => ?_, e2, e3⟩
  rw [hR] at hR'
  cases hR'
  exact ⟨n, e⟩
section MRO
variable {sc : Option (List Int32)} {rt ini mx na rc fr lo mc ms : Nat} {t : ev_T} {pc : Nat} {Lc : ev_L} {stc : List Value} {hc : ev_H} {kc ks : Nat} {Q : Option Value → ev_H → Prop}
variable {pp0 a b pp : Nat} {i : Instr} {v : Value} {l : List (Nat × Value)} {m : Nat → Nat → Int}
theorem m_gfi {q c k : Nat} {kk : List (Option Nat)} (ho : h_O q c kk) (x : Int) (hf : ev_f t pc = some (pp0, .getfield k, c, b, pp, v)) (hw : y_in yGw hc) (hm : gi hc = m) (hk : kk[b]? = some none) (hx : m q b = x) (h : x_W sc (rt, ini, mx, na, rc, fr, lo, mc, ms, t) (pc + 3) Lc (fi x :: stc) hc kc ks Q) : x_W sc (rt, ini, mx, na, rc, fr, lo, mc, ms, t) pc Lc (.ref q :: stc) hc kc ks Q := by
  obtain ⟨fs, hq, h1, h2, h3⟩ := ho hc hw
  obtain ⟨z, hz⟩ := h1 b hk
  refine f_gf hf hq hz ?_
  rw [gi_v (hc := hc) (q := q) (i := b) (by rw [f_get_o hq]; exact hz), hm, hx]
  exact h
theorem m_gfr {q c k r : Nat} {kk : List (Option Nat)} (ho : h_O q c kk) (hf : ev_f t pc = some (pp0, .getfield k, c, b, pp, v)) (hw : y_in yGw hc) (hk : kk[b]? = some (some r)) (hr : r < 900) (h : x_W sc (rt, ini, mx, na, rc, fr, lo, mc, ms, t) (pc + 3) Lc (.ref r :: stc) hc kc ks Q) : x_W sc (rt, ini, mx, na, rc, fr, lo, mc, ms, t) pc Lc (.ref q :: stc) hc kc ks Q := by
  obtain ⟨fs, hq, h1, h2, h3⟩ := ho hc hw
  exact f_gf hf hq (h2 b r hk hr) h
theorem gi_set_o {q c k : Nat} {fs : List Value} {x : Int} (hq : hc[q]? = some (.inr (.inr (c, fs)))) (hk : k < fs.length) (hx : -2147483648 ≤ x ∧ x ≤ 2147483647) : gi (hc.set q (.inr (.inr (c, fs.set k (fi x))))) = up (gi hc) q k x := by
  funext q' i'
  unfold gi up
  rw [y_get_setO hq hk]
  by_cases h : q' = q ∧ i' = k
  · rw [if_pos h, if_pos h]
    exact x_i32 hx.1 hx.2
  · rw [if_neg h, if_neg h]
theorem gi_set_a {q tt k : Nat} {xs : List Int32} {y : Int32} {x : Int} (hq : hc[q]? = some (.inl (tt, xs))) (hk : k < xs.length) (hx : y.toInt = x) : gi (hc.set q (.inl (tt, xs.set k y))) = up (gi hc) q k x := by
  funext q' i'
  unfold gi up
  rw [y_get_setA hq hk]
  by_cases h : q' = q ∧ i' = k
  · rw [if_pos h, if_pos h]
    exact hx
  · rw [if_neg h, if_neg h]
theorem m_pf {q c k : Nat} {kk : List (Option Nat)} (ho : h_O q c kk) {x : Int} (hf : ev_f t pc = some (pp0, .putfield k, c, b, pp, v)) (hw : y_in yGw hc) (hm : gi hc = m) (hk : kk[b]? = some none) (hok : f_pfok c b ini (fi x) = true) (hx : -2147483648 ≤ x ∧ x ≤ 2147483647) (h : ∀ hc', y_in yGw hc' → gi hc' = up m q b x → x_W sc (rt, ini, mx, na, rc, fr, lo, mc, ms, t) (pc + 3) Lc stc hc' kc ks Q) : x_W sc (rt, ini, mx, na, rc, fr, lo, mc, ms, t) pc Lc (fi x :: .ref q :: stc) hc kc ks Q := by
  obtain ⟨fs, hq, h1, h2, h3⟩ := ho hc hw
  obtain ⟨z, hz⟩ := h1 b hk
  have hl := (List.getElem?_eq_some_iff.mp hz).1
  exact f_pf hf hq hl hok (h _ (h3 b _ hk ⟨_, rfl⟩) (by rw [gi_set_o hq hl hx, hm]))
theorem m_ia {q n : Nat} (ha : h_A q 0 n) {j : Int} (x : Int) (hf : ev_f t pc = some (pp0, .iaload, a, b, pp, v)) (hw : y_in yGw hc) (hm : gi hc = m) (j1 : 0 ≤ j) (j2 : j < n) (hn : n ≤ 1000) (hx : m q j.toNat = x) (h : x_W sc (rt, ini, mx, na, rc, fr, lo, mc, ms, t) (pc + 1) Lc (fi x :: stc) hc kc ks Q) : x_W sc (rt, ini, mx, na, rc, fr, lo, mc, ms, t) pc Lc (fi j :: .ref q :: stc) hc kc ks Q := by
  obtain ⟨xs, hq, hl, -⟩ := ha hc hw
  have hj : j.toNat < xs.length := by omega
  have hz : xs[j.toNat]? = some xs[j.toNat] := List.getElem?_eq_getElem hj
  refine f_ia hf hq j1 (by omega) hz ?_
  rw [gi_v (hc := hc) (q := q) (i := j.toNat) (by unfold y_get; rw [hq]; show (xs[j.toNat]?).map _ = _; rw [hz]; rfl), hm, hx]
  exact h
theorem m_ias {q n : Nat} (ha : h_A q 0 n) {j x : Int} (hf : ev_f t pc = some (pp0, .iastore, a, b, pp, v)) (hw : y_in yGw hc) (hm : gi hc = m) (j1 : 0 ≤ j) (j2 : j < n) (hn : n ≤ 1000) (hx : -2147483648 ≤ x ∧ x ≤ 2147483647) (h : ∀ hc', y_in yGw hc' → gi hc' = up m q j.toNat x → x_W sc (rt, ini, mx, na, rc, fr, lo, mc, ms, t) (pc + 1) Lc stc hc' kc ks Q) : x_W sc (rt, ini, mx, na, rc, fr, lo, mc, ms, t) pc Lc (fi x :: fi j :: .ref q :: stc) hc kc ks Q := by
  obtain ⟨xs, hq, hl, hs⟩ := ha hc hw
  have hj : j.toNat < xs.length := by omega
  exact f_ias hf hq j1 (by omega) hj (h _ (hs _ (by rw [List.length_set]; exact hl)) (by rw [gi_set_a hq hj (x_i32 hx.1 hx.2), hm]))
theorem m_al {q k n : Nat} (ha : h_A q k n) (hf : ev_f t pc = some (pp0, .arraylength, a, b, pp, v)) (hw : y_in yGw hc) (hk : k < 3) (h : x_W sc (rt, ini, mx, na, rc, fr, lo, mc, ms, t) (pc + 1) Lc (fi (n : Int) :: stc) hc kc ks Q) : x_W sc (rt, ini, mx, na, rc, fr, lo, mc, ms, t) pc Lc (.ref q :: stc) hc kc ks Q := by
  obtain ⟨xs, hq, hl, -⟩ := ha hc hw
  exact f_alen hf hq hk (by rw [hl]) h
theorem m_ar {q c na9 : Nat} {kk : List (Option Nat)} {st r : List Value} (ho : h_O q c kk) (hw : y_in yGw hc) (hd : st.drop na9 = .ref q :: r) : ev_ar (c + 1) na9 st hc = some (.ref q :: (st.take na9).reverse, r) := by
  obtain ⟨fs, hq, -⟩ := ho hc hw
  exact f_ar_v hq hd
theorem m_k1 {rt' ini' mx' na' rc' fr' lo' mc' ms' : Nat} {t' : ev_T} {q9 : MethodName × ByteArray × Option FieldType × Nat × Nat × Nat × Nat} {as r : List Value} {w : Value} {m' : Nat → Nat → Int} (hM : h_M a as m (some w) m') (hw : y_in yGw hc) (hm : gi hc = m) (hf : ev_f t pc = some (pp0, i, a, b, pp, v)) (hk : ev_k i b = some 0) (hm9 : ev_ms a = some ((rt', ini', mx', na', rc', fr', lo', mc', ms', t'), q9)) (har : ev_ar rc' na' stc hc = some (as, r))
    (hcd : (ev_fit i (rt', ini', mx', na', rc', fr', lo', mc', ms', t') && (Nat.ble (fr' + 1) fr && (Nat.ble (8 + (mx' + 11) + lo') lo && (Nat.ble (ev_sum r) 8 && (Nat.ble (ev_sum as) mx' && (Nat.ble (kc + mc') mc && Nat.ble (ks + ms') ms)))))) = true)
    (h : ∀ hc', y_in yGw hc' → gi hc' = m' → x_W sc (rt, ini, mx, na, rc, fr, lo, mc, ms, t) (pc + 3) Lc (w :: r) hc' (kc + mc') (ks + ms') Q) : x_W sc (rt, ini, mx, na, rc, fr, lo, mc, ms, t) pc Lc stc hc kc ks Q := by
  obtain ⟨hc', e1, e2, e3⟩ := hM hc hw hm
  exact f_k1 e1 hf hk hm9 har hcd (h hc' e2 e3)
theorem m_k0 {rt' ini' mx' na' rc' fr' lo' mc' ms' : Nat} {t' : ev_T} {q9 : MethodName × ByteArray × Option FieldType × Nat × Nat × Nat × Nat} {as r : List Value} {m' : Nat → Nat → Int} (hM : h_M a as m none m') (hw : y_in yGw hc) (hm : gi hc = m) (hf : ev_f t pc = some (pp0, i, a, b, pp, v)) (hk : ev_k i b = some 0) (hm9 : ev_ms a = some ((rt', ini', mx', na', rc', fr', lo', mc', ms', t'), q9)) (har : ev_ar rc' na' stc hc = some (as, r))
    (hcd : (ev_fit i (rt', ini', mx', na', rc', fr', lo', mc', ms', t') && (Nat.ble (fr' + 1) fr && (Nat.ble (8 + (mx' + 11) + lo') lo && (Nat.ble (ev_sum r) 8 && (Nat.ble (ev_sum as) mx' && (Nat.ble (kc + mc') mc && Nat.ble (ks + ms') ms)))))) = true)
    (h : ∀ hc', y_in yGw hc' → gi hc' = m' → x_W sc (rt, ini, mx, na, rc, fr, lo, mc, ms, t) (pc + 3) Lc r hc' (kc + mc') (ks + ms') Q) : x_W sc (rt, ini, mx, na, rc, fr, lo, mc, ms, t) pc Lc stc hc kc ks Q := by
  obtain ⟨hc', e1, e2, e3⟩ := hM hc hw hm
  exact f_k0 e1 hf hk hm9 har hcd (h hc' e2 e3)
theorem m_get_a {q tt : Nat} {xs : List Int32} {k : Nat} {z : Int32} (hq : hc[q]? = some (.inl (tt, xs))) (hz : xs[k]? = some z) : y_get hc q k = some (.int z) := by
  unfold y_get
  rw [hq]
  show (xs[k]?).map _ = _
  rw [hz]
  rfl
theorem m_ca {q n : Nat} (ha : h_A q 1 n) {j : Int} (x : Int) (hf : ev_f t pc = some (pp0, .caload, a, b, pp, v)) (hw : y_in yGw hc) (hm : gi hc = m) (j1 : 0 ≤ j) (j2 : j < n) (hn : n ≤ 1000) (hx : m q j.toNat = x) (h : x_W sc (rt, ini, mx, na, rc, fr, lo, mc, ms, t) (pc + 1) Lc (fi x :: stc) hc kc ks Q) : x_W sc (rt, ini, mx, na, rc, fr, lo, mc, ms, t) pc Lc (fi j :: .ref q :: stc) hc kc ks Q := by
  obtain ⟨xs, hq, hl, -⟩ := ha hc hw
  have hj : j.toNat < xs.length := by omega
  have hz : xs[j.toNat]? = some xs[j.toNat] := List.getElem?_eq_getElem hj
  obtain ⟨hi, en⟩ := f_in_ok (n := xs.length) j1 (by omega) hj
  refine x_W_h hf (st' := fi x :: stc) (hc' := hc) ?_ h
  unfold ev_h
  dsimp only
  rw [hq]
  show (match ev_inn (Int32.ofInt j) xs.length with
    | true => some (Value.int (xs.getD (Int32.ofInt j).toNatClampNeg 0) :: stc, hc)
    | false => none) = _
  rw [hi, en, List.getD_eq_getElem?_getD, hz]
  show some (Value.int xs[j.toNat] :: stc, hc) = _
  rw [gi_v (m_get_a hq hz), hm, hx]
theorem m_ba {q n : Nat} (ha : h_A q 2 n) {j : Int} (x : Int) (hf : ev_f t pc = some (pp0, .baload, a, b, pp, v)) (hw : y_in yGw hc) (hm : gi hc = m) (j1 : 0 ≤ j) (j2 : j < n) (hn : n ≤ 1000) (hx : m q j.toNat = x) (h : x_W sc (rt, ini, mx, na, rc, fr, lo, mc, ms, t) (pc + 1) Lc (fi x :: stc) hc kc ks Q) : x_W sc (rt, ini, mx, na, rc, fr, lo, mc, ms, t) pc Lc (fi j :: .ref q :: stc) hc kc ks Q := by
  obtain ⟨xs, hq, hl, -⟩ := ha hc hw
  have hj : j.toNat < xs.length := by omega
  have hz : xs[j.toNat]? = some xs[j.toNat] := List.getElem?_eq_getElem hj
  obtain ⟨hi, en⟩ := f_in_ok (n := xs.length) j1 (by omega) hj
  refine x_W_h hf (st' := fi x :: stc) (hc' := hc) ?_ h
  unfold ev_h
  dsimp only
  rw [hq]
  show (match ev_inn (Int32.ofInt j) xs.length with
    | true => some (Value.int (xs.getD (Int32.ofInt j).toNatClampNeg 0) :: stc, hc)
    | false => none) = _
  rw [hi, en, List.getD_eq_getElem?_getD, hz]
  show some (Value.int xs[j.toNat] :: stc, hc) = _
  rw [gi_v (m_get_a hq hz), hm, hx]
theorem m_cas {q n : Nat} (ha : h_A q 1 n) {j x : Int} (hf : ev_f t pc = some (pp0, .castore, a, b, pp, v)) (hw : y_in yGw hc) (hm : gi hc = m) (j1 : 0 ≤ j) (j2 : j < n) (hn : n ≤ 1000) (hx : 0 ≤ x ∧ x ≤ 65535) (h : ∀ hc', y_in yGw hc' → gi hc' = up m q j.toNat x → x_W sc (rt, ini, mx, na, rc, fr, lo, mc, ms, t) (pc + 1) Lc stc hc' kc ks Q) : x_W sc (rt, ini, mx, na, rc, fr, lo, mc, ms, t) pc Lc (fi x :: fi j :: .ref q :: stc) hc kc ks Q := by
  obtain ⟨xs, hq, hl, hs⟩ := ha hc hw
  have hj : j.toNat < xs.length := by omega
  have hnar : vp_nar .char (Int32.ofInt x) = Int32.ofInt x := by
    have e := x_nchar hx.1 hx.2
    unfold vp_nar
    rw [e]
  exact f_cas hf hq j1 (by omega) hj (h _ (hs _ (by rw [List.length_set]; exact hl)) (by rw [gi_set_a (x := x) hq hj (by rw [hnar]; exact x_i32 (by omega) (by omega)), hm]))
theorem m_bas {q n : Nat} (ha : h_A q 2 n) {j x : Int} (hf : ev_f t pc = some (pp0, .bastore, a, b, pp, v)) (hw : y_in yGw hc) (hm : gi hc = m) (j1 : 0 ≤ j) (j2 : j < n) (hn : n ≤ 1000) (hx : x = 0 ∨ x = 1) (h : ∀ hc', y_in yGw hc' → gi hc' = up m q j.toNat x → x_W sc (rt, ini, mx, na, rc, fr, lo, mc, ms, t) (pc + 1) Lc stc hc' kc ks Q) : x_W sc (rt, ini, mx, na, rc, fr, lo, mc, ms, t) pc Lc (fi x :: fi j :: .ref q :: stc) hc kc ks Q := by
  obtain ⟨xs, hq, hl, hs⟩ := ha hc hw
  have hj : j.toNat < xs.length := by omega
  obtain ⟨hi, en⟩ := f_in_ok (n := xs.length) j1 (by omega) hj
  have hnar : (vp_nar .boolean (Int32.ofInt x)).toInt = x := by
    rcases hx with rfl | rfl <;> rfl
  refine x_W_h hf (st' := stc) (hc' := hc.set q (.inl (2, xs.set j.toNat (vp_nar .boolean (Int32.ofInt x))))) ?_ (h _ (hs _ (by rw [List.length_set]; exact hl)) (by rw [gi_set_a hq hj hnar, hm]))
  unfold ev_h
  dsimp only
  rw [hq]
  show (match ev_inn (Int32.ofInt j) xs.length with
    | true => some (stc, hc.set q (.inl (2, xs.set (Int32.ofInt j).toNatClampNeg (vp_nar .boolean (Int32.ofInt x)))))
    | false => none) = _
  rw [hi, en]
theorem m_aa {q b9 n : Nat} (hr : h_R q b9 n) {j : Int} (hf : ev_f t pc = some (pp0, .aaload, a, b, pp, v)) (hw : y_in yGw hc) (j1 : 0 ≤ j) (j2 : j < n) (hn : n ≤ 1000) (h : x_W sc (rt, ini, mx, na, rc, fr, lo, mc, ms, t) (pc + 1) Lc (.ref (b9 + j.toNat) :: stc) hc kc ks Q) : x_W sc (rt, ini, mx, na, rc, fr, lo, mc, ms, t) pc Lc (fi j :: .ref q :: stc) hc kc ks Q := by
  have hq := hr hc hw
  have hl : ((List.range n).map (fun i => b9 + i)).length = n := by rw [List.length_map, List.length_range]
  obtain ⟨hi, en⟩ := f_in_ok (n := ((List.range n).map (fun i => b9 + i)).length) j1 (by omega) (by rw [hl]; omega)
  refine x_W_h hf (st' := .ref (b9 + j.toNat) :: stc) (hc' := hc) ?_ h
  unfold ev_h
  dsimp only
  rw [hq]
  show (match ev_inn (Int32.ofInt j) ((List.range n).map (fun i => b9 + i)).length with
    | true => some (Value.ref (((List.range n).map (fun i => b9 + i)).getD (Int32.ofInt j).toNatClampNeg 0) :: stc, hc)
    | false => none) = _
  rw [hi, en, List.getD_eq_getElem?_getD, List.getElem?_map, List.getElem?_range (by omega)]
  rfl
theorem m_ret3 {x : Int} (hf : ev_f t pc = some (pp0, .ireturn, a, b, pp, v)) (hx : 0 ≤ x ∧ x ≤ 65535) (h : Q (some (fi x)) hc) : x_W sc (3, ini, mx, na, rc, fr, lo, mc, ms, t) pc Lc [fi x] hc kc ks Q := x_W_r hf (r := some (fi x)) (by
  show (if narrow .char (.int (Int32.ofInt x)) = .int (Int32.ofInt x) then some (some (fi x)) else none) = _
  rw [if_pos (x_nchar hx.1 hx.2)]) h
theorem m_ret0 (hf : ev_f t pc = some (pp0, .return_, a, b, pp, v)) (h : Q none hc) : x_W sc (0, ini, mx, na, rc, fr, lo, mc, ms, t) pc Lc [] hc kc ks Q := x_W_r hf (r := none) rfl h
end MRO
/-! the shape of every cell -/
theorem so0 : h_O 0 9 [some 1, some 3, some 9, some 13, some 17, some 33, some 38, some 41, some 44, some 53, some 54, some 999] := h_O_of (cy := _) rfl rfl rfl (by decide +kernel)
theorem so1 : h_O 1 8 [some 2, none] := h_O_of (cy := _) rfl rfl rfl (by decide +kernel)
theorem sa2 : h_A 2 1 40 := h_A_of (cy := _) rfl rfl rfl rfl (by decide +kernel)
theorem so3 : h_O 3 4 [some 4, some 5, some 6, some 7, some 8, none, none] := h_O_of (cy := _) rfl rfl rfl (by decide +kernel)
theorem sa4 : h_A 4 0 4 := h_A_of (cy := _) rfl rfl rfl rfl (by decide +kernel)
theorem sa5 : h_A 5 0 4 := h_A_of (cy := _) rfl rfl rfl rfl (by decide +kernel)
theorem sa6 : h_A 6 0 5 := h_A_of (cy := _) rfl rfl rfl rfl (by decide +kernel)
theorem sa7 : h_A 7 0 5 := h_A_of (cy := _) rfl rfl rfl rfl (by decide +kernel)
theorem sa8 : h_A 8 0 5 := h_A_of (cy := _) rfl rfl rfl rfl (by decide +kernel)
theorem so9 : h_O 9 6 [some 3, some 10, some 11, some 12, none, none, none] := h_O_of (cy := _) rfl rfl rfl (by decide +kernel)
theorem sa10 : h_A 10 0 5 := h_A_of (cy := _) rfl rfl rfl rfl (by decide +kernel)
theorem sa11 : h_A 11 0 5 := h_A_of (cy := _) rfl rfl rfl rfl (by decide +kernel)
theorem sa12 : h_A 12 0 5 := h_A_of (cy := _) rfl rfl rfl rfl (by decide +kernel)
theorem so13 : h_O 13 6 [some 3, some 14, some 15, some 16, none, none, none] := h_O_of (cy := _) rfl rfl rfl (by decide +kernel)
theorem sa14 : h_A 14 0 5 := h_A_of (cy := _) rfl rfl rfl rfl (by decide +kernel)
theorem sa15 : h_A 15 0 5 := h_A_of (cy := _) rfl rfl rfl rfl (by decide +kernel)
theorem sa16 : h_A 16 0 5 := h_A_of (cy := _) rfl rfl rfl rfl (by decide +kernel)
theorem so17 : h_O 17 0 [some 18, none, none] := h_O_of (cy := _) rfl rfl rfl (by decide +kernel)
theorem sr18 : h_R 18 19 14 := h_R_of (cy := _) rfl rfl rfl rfl
theorem sa19 : h_A 19 0 18 := h_A_of (cy := _) rfl rfl rfl rfl (by decide +kernel)
theorem sa20 : h_A 20 0 18 := h_A_of (cy := _) rfl rfl rfl rfl (by decide +kernel)
theorem sa21 : h_A 21 0 18 := h_A_of (cy := _) rfl rfl rfl rfl (by decide +kernel)
theorem sa22 : h_A 22 0 18 := h_A_of (cy := _) rfl rfl rfl rfl (by decide +kernel)
theorem sa23 : h_A 23 0 18 := h_A_of (cy := _) rfl rfl rfl rfl (by decide +kernel)
theorem sa24 : h_A 24 0 18 := h_A_of (cy := _) rfl rfl rfl rfl (by decide +kernel)
theorem sa25 : h_A 25 0 18 := h_A_of (cy := _) rfl rfl rfl rfl (by decide +kernel)
theorem sa26 : h_A 26 0 18 := h_A_of (cy := _) rfl rfl rfl rfl (by decide +kernel)
theorem sa27 : h_A 27 0 18 := h_A_of (cy := _) rfl rfl rfl rfl (by decide +kernel)
theorem sa28 : h_A 28 0 18 := h_A_of (cy := _) rfl rfl rfl rfl (by decide +kernel)
theorem sa29 : h_A 29 0 18 := h_A_of (cy := _) rfl rfl rfl rfl (by decide +kernel)
theorem sa30 : h_A 30 0 18 := h_A_of (cy := _) rfl rfl rfl rfl (by decide +kernel)
theorem sa31 : h_A 31 0 18 := h_A_of (cy := _) rfl rfl rfl rfl (by decide +kernel)
theorem sa32 : h_A 32 0 18 := h_A_of (cy := _) rfl rfl rfl rfl (by decide +kernel)
theorem so33 : h_O 33 7 [some 34, some 37] := h_O_of (cy := _) rfl rfl rfl (by decide +kernel)
theorem sr34 : h_R 34 35 2 := h_R_of (cy := _) rfl rfl rfl rfl
theorem sa35 : h_A 35 0 18 := h_A_of (cy := _) rfl rfl rfl rfl (by decide +kernel)
theorem sa36 : h_A 36 0 18 := h_A_of (cy := _) rfl rfl rfl rfl (by decide +kernel)
theorem sa37 : h_A 37 2 2 := h_A_of (cy := _) rfl rfl rfl rfl (by decide +kernel)
theorem so38 : h_O 38 2 [some 39, some 40, none] := h_O_of (cy := _) rfl rfl rfl (by decide +kernel)
theorem sa39 : h_A 39 0 5 := h_A_of (cy := _) rfl rfl rfl rfl (by decide +kernel)
theorem sa40 : h_A 40 0 4 := h_A_of (cy := _) rfl rfl rfl rfl (by decide +kernel)
theorem so41 : h_O 41 3 [some 3, some 42, some 43] := h_O_of (cy := _) rfl rfl rfl (by decide +kernel)
theorem sa42 : h_A 42 0 5 := h_A_of (cy := _) rfl rfl rfl rfl (by decide +kernel)
theorem sa43 : h_A 43 0 4 := h_A_of (cy := _) rfl rfl rfl rfl (by decide +kernel)
theorem so44 : h_O 44 5 [some 3, some 45, some 52, none] := h_O_of (cy := _) rfl rfl rfl (by decide +kernel)
theorem sr45 : h_R 45 46 6 := h_R_of (cy := _) rfl rfl rfl rfl
theorem sa46 : h_A 46 0 16 := h_A_of (cy := _) rfl rfl rfl rfl (by decide +kernel)
theorem sa47 : h_A 47 0 16 := h_A_of (cy := _) rfl rfl rfl rfl (by decide +kernel)
theorem sa48 : h_A 48 0 16 := h_A_of (cy := _) rfl rfl rfl rfl (by decide +kernel)
theorem sa49 : h_A 49 0 16 := h_A_of (cy := _) rfl rfl rfl rfl (by decide +kernel)
theorem sa50 : h_A 50 0 16 := h_A_of (cy := _) rfl rfl rfl rfl (by decide +kernel)
theorem sa51 : h_A 51 0 16 := h_A_of (cy := _) rfl rfl rfl rfl (by decide +kernel)
theorem sa52 : h_A 52 0 5 := h_A_of (cy := _) rfl rfl rfl rfl (by decide +kernel)
theorem so53 : h_O 53 1 [none, none, none] := h_O_of (cy := _) rfl rfl rfl (by decide +kernel)
theorem sa54 : h_A 54 0 4 := h_A_of (cy := _) rfl rfl rfl rfl (by decide +kernel)
theorem so55 : h_O 55 10 [none, none, some 56, some 57, some 58, some 59, some 60, some 61, some 62, some 63, none, none, some 64, none, none, none, none, none, some 65, some 66, none, none, some 67, some 68, some 69, some 999, some 70, some 71] := h_O_of (cy := _) rfl rfl rfl (by decide +kernel)
theorem sa56 : h_A 56 0 4 := h_A_of (cy := _) rfl rfl rfl rfl (by decide +kernel)
theorem sa57 : h_A 57 0 4 := h_A_of (cy := _) rfl rfl rfl rfl (by decide +kernel)
theorem sa58 : h_A 58 0 5 := h_A_of (cy := _) rfl rfl rfl rfl (by decide +kernel)
theorem sa59 : h_A 59 0 5 := h_A_of (cy := _) rfl rfl rfl rfl (by decide +kernel)
theorem sa60 : h_A 60 0 5 := h_A_of (cy := _) rfl rfl rfl rfl (by decide +kernel)
theorem sa61 : h_A 61 0 36 := h_A_of (cy := _) rfl rfl rfl rfl (by decide +kernel)
theorem sa62 : h_A 62 0 8 := h_A_of (cy := _) rfl rfl rfl rfl (by decide +kernel)
theorem sa63 : h_A 63 0 15 := h_A_of (cy := _) rfl rfl rfl rfl (by decide +kernel)
theorem sa64 : h_A 64 0 40 := h_A_of (cy := _) rfl rfl rfl rfl (by decide +kernel)
theorem sa65 : h_A 65 0 252 := h_A_of (cy := _) rfl rfl rfl rfl (by decide +kernel)
theorem sa66 : h_A 66 0 4 := h_A_of (cy := _) rfl rfl rfl rfl (by decide +kernel)
theorem sa67 : h_A 67 0 6 := h_A_of (cy := _) rfl rfl rfl rfl (by decide +kernel)
theorem sa68 : h_A 68 0 6 := h_A_of (cy := _) rfl rfl rfl rfl (by decide +kernel)
theorem sa69 : h_A 69 0 16 := h_A_of (cy := _) rfl rfl rfl rfl (by decide +kernel)
theorem sa70 : h_A 70 2 2 := h_A_of (cy := _) rfl rfl rfl rfl (by decide +kernel)
theorem sa71 : h_A 71 0 36 := h_A_of (cy := _) rfl rfl rfl rfl (by decide +kernel)
/-! bits as numbers -/
def iA (x y : Int) : Int := (Int32.ofInt x &&& Int32.ofInt y).toInt
def iO (x y : Int) : Int := (Int32.ofInt x ||| Int32.ofInt y).toInt
def iX (x y : Int) : Int := (Int32.ofInt x ^^^ Int32.ofInt y).toInt
def iS (x y : Int) : Int := (Int32.ofInt x <<< (Int32.ofInt y &&& 31)).toInt
def iR (x y : Int) : Int := (Int32.ofInt x >>> (Int32.ofInt y &&& 31)).toInt
def iU (x y : Int) : Int := ((Int32.ofInt x).toUInt32 >>> ((Int32.ofInt y).toUInt32 &&& Int32.toUInt32 31)).toInt32.toInt
theorem iA_r {x y : Int} : -2147483648 ≤ iA x y ∧ iA x y ≤ 2147483647 := f_i32 _
theorem iO_r {x y : Int} : -2147483648 ≤ iO x y ∧ iO x y ≤ 2147483647 := f_i32 _
theorem iX_r {x y : Int} : -2147483648 ≤ iX x y ∧ iX x y ≤ 2147483647 := f_i32 _
theorem iS_r {x y : Int} : -2147483648 ≤ iS x y ∧ iS x y ≤ 2147483647 := f_i32 _
theorem iR_r {x y : Int} : -2147483648 ≤ iR x y ∧ iR x y ≤ 2147483647 := f_i32 _
theorem iU_r {x y : Int} : -2147483648 ≤ iU x y ∧ iU x y ≤ 2147483647 := f_i32 _
/-- 32 bits -/
def i32w (x : Int) : Int := (Int32.ofInt x).toInt
theorem i32w_r {x : Int} : -2147483648 ≤ i32w x ∧ i32w x ≤ 2147483647 := f_i32 _
theorem i32w_of {x : Int} (h : -2147483648 ≤ x ∧ x ≤ 2147483647) : i32w x = x := x_i32 h.1 h.2
theorem fi_w {x : Int} : fi (i32w x) = fi x := by show Value.int (Int32.ofInt (Int32.ofInt x).toInt) = _; rw [Int32.ofInt_toInt]
section BRO
variable {sc : Option (List Int32)} {rt ini mx na rc fr lo mc ms : Nat} {t : ev_T} {pc : Nat} {Lc : ev_L} {stc : List Value} {hc : ev_H} {kc ks : Nat} {Q : Option Value → ev_H → Prop}
variable {pp0 a b pp : Nat} {v : Value} {x y : Int}
theorem b_iand (hf : ev_f t pc = some (pp0, .iand, a, b, pp, v)) (h : x_W sc (rt, ini, mx, na, rc, fr, lo, mc, ms, t) (pc + 1) Lc (fi (iA x y) :: stc) hc kc ks Q) : x_W sc (rt, ini, mx, na, rc, fr, lo, mc, ms, t) pc Lc (fi y :: fi x :: stc) hc kc ks Q := f_bin (iA x y) hf rfl (by show some (Value.int (Int32.ofInt x &&& Int32.ofInt y) :: stc) = some (Value.int (Int32.ofInt (Int32.ofInt x &&& Int32.ofInt y).toInt) :: stc); rw [Int32.ofInt_toInt]) h
theorem b_ior (hf : ev_f t pc = some (pp0, .ior, a, b, pp, v)) (h : x_W sc (rt, ini, mx, na, rc, fr, lo, mc, ms, t) (pc + 1) Lc (fi (iO x y) :: stc) hc kc ks Q) : x_W sc (rt, ini, mx, na, rc, fr, lo, mc, ms, t) pc Lc (fi y :: fi x :: stc) hc kc ks Q := f_bin (iO x y) hf rfl (by show some (Value.int (Int32.ofInt x ||| Int32.ofInt y) :: stc) = some (Value.int (Int32.ofInt (Int32.ofInt x ||| Int32.ofInt y).toInt) :: stc); rw [Int32.ofInt_toInt]) h
theorem b_ixor (hf : ev_f t pc = some (pp0, .ixor, a, b, pp, v)) (h : x_W sc (rt, ini, mx, na, rc, fr, lo, mc, ms, t) (pc + 1) Lc (fi (iX x y) :: stc) hc kc ks Q) : x_W sc (rt, ini, mx, na, rc, fr, lo, mc, ms, t) pc Lc (fi y :: fi x :: stc) hc kc ks Q := f_bin (iX x y) hf rfl (by show some (Value.int (Int32.ofInt x ^^^ Int32.ofInt y) :: stc) = some (Value.int (Int32.ofInt (Int32.ofInt x ^^^ Int32.ofInt y).toInt) :: stc); rw [Int32.ofInt_toInt]) h
theorem b_ishl (hf : ev_f t pc = some (pp0, .ishl, a, b, pp, v)) (h : x_W sc (rt, ini, mx, na, rc, fr, lo, mc, ms, t) (pc + 1) Lc (fi (iS x y) :: stc) hc kc ks Q) : x_W sc (rt, ini, mx, na, rc, fr, lo, mc, ms, t) pc Lc (fi y :: fi x :: stc) hc kc ks Q := f_bin (iS x y) hf rfl (by show some (Value.int (Int32.ofInt x <<< (Int32.ofInt y &&& 31)) :: stc) = some (Value.int (Int32.ofInt (Int32.ofInt x <<< (Int32.ofInt y &&& 31)).toInt) :: stc); rw [Int32.ofInt_toInt]) h
theorem b_ishr (hf : ev_f t pc = some (pp0, .ishr, a, b, pp, v)) (h : x_W sc (rt, ini, mx, na, rc, fr, lo, mc, ms, t) (pc + 1) Lc (fi (iR x y) :: stc) hc kc ks Q) : x_W sc (rt, ini, mx, na, rc, fr, lo, mc, ms, t) pc Lc (fi y :: fi x :: stc) hc kc ks Q := f_bin (iR x y) hf rfl (by show some (Value.int (Int32.ofInt x >>> (Int32.ofInt y &&& 31)) :: stc) = some (Value.int (Int32.ofInt (Int32.ofInt x >>> (Int32.ofInt y &&& 31)).toInt) :: stc); rw [Int32.ofInt_toInt]) h
theorem b_iushr (hf : ev_f t pc = some (pp0, .iushr, a, b, pp, v)) (h : x_W sc (rt, ini, mx, na, rc, fr, lo, mc, ms, t) (pc + 1) Lc (fi (iU x y) :: stc) hc kc ks Q) : x_W sc (rt, ini, mx, na, rc, fr, lo, mc, ms, t) pc Lc (fi y :: fi x :: stc) hc kc ks Q := f_bin (iU x y) hf rfl (by show some (Value.int ((Int32.ofInt x).toUInt32 >>> ((Int32.ofInt y).toUInt32 &&& Int32.toUInt32 31)).toInt32 :: stc) = some (Value.int (Int32.ofInt ((Int32.ofInt x).toUInt32 >>> ((Int32.ofInt y).toUInt32 &&& Int32.toUInt32 31)).toInt32.toInt) :: stc); rw [Int32.ofInt_toInt]) h
theorem b_ldc (z : Int) {k : Nat} {w : Int32} (hf : ev_f t pc = some (pp0, .ldc_w k, a, b, pp, .int w)) (hz : w = Int32.ofInt z) (h : x_W sc (rt, ini, mx, na, rc, fr, lo, mc, ms, t) (pc + 3) Lc (fi z :: stc) hc kc ks Q) : x_W sc (rt, ini, mx, na, rc, fr, lo, mc, ms, t) pc Lc stc hc kc ks Q := x_W_s hf (st' := fi z :: stc) (by show some (Value.int w :: stc) = _; rw [hz]) h
theorem b_eq {z : Int} (e : z = x) (h : x_W sc (rt, ini, mx, na, rc, fr, lo, mc, ms, t) pc Lc (fi x :: stc) hc kc ks Q) : x_W sc (rt, ini, mx, na, rc, fr, lo, mc, ms, t) pc Lc (fi z :: stc) hc kc ks Q := by rw [e]; exact h
/-- a number that may pass 32 bits is kept as 32 bits -/
theorem b_w (h : x_W sc (rt, ini, mx, na, rc, fr, lo, mc, ms, t) pc Lc (fi (i32w x) :: stc) hc kc ks Q) : x_W sc (rt, ini, mx, na, rc, fr, lo, mc, ms, t) pc Lc (fi x :: stc) hc kc ks Q := by rw [fi_w] at h; exact h
end BRO
theorem gi_r (hc : ev_H) (q i : Nat) : -2147483648 ≤ gi hc q i ∧ gi hc q i ≤ 2147483647 := by
  unfold gi
  split
  · exact f_i32 _
  · decide
theorem gi_R {hc : ev_H} {m : Nat → Nat → Int} (hm : gi hc = m) : ∀ q i, -2147483648 ≤ m q i ∧ m q i ≤ 2147483647 := fun q i => by rw [← hm]; exact gi_r hc q i
/-! arraycopy over numbers -/
def cpy (m : Nat → Nat → Int) (q0 sp q1 dp n : Nat) : Nat → Nat → Int := fun q i => if q = q1 ∧ dp ≤ i ∧ i < dp + n then m q0 (sp + (i - dp)) else m q i
theorem gi_set_w {hc : ev_H} {q tt : Nat} {xs zs : List Int32} (hq : hc[q]? = some (.inl (tt, xs))) (q' i : Nat) : gi (hc.set q (.inl (tt, zs))) q' i = if q' = q then (match zs[i]? with
  | some z => z.toInt
  | none => 0) else gi hc q' i := by
  have hl := (List.getElem?_eq_some_iff.mp hq).1
  unfold gi y_get
  rw [List.getElem?_set]
  by_cases h : q = q'
  · subst h
    rw [if_pos rfl, if_pos hl, if_pos rfl]
    dsimp only
    cases zs[i]? <;> rfl
  · rw [if_neg h, if_neg (fun z => h z.symm)]
theorem gi_arr {hc : ev_H} {q tt : Nat} {xs : List Int32} (hq : hc[q]? = some (.inl (tt, xs))) (i : Nat) : gi hc q i = (match xs[i]? with
  | some z => z.toInt
  | none => 0) := by
  unfold gi y_get
  rw [hq]
  dsimp only
  cases xs[i]? <;> rfl
section CPY
variable {sc : Option (List Int32)} {rt ini mx na rc fr lo mc ms : Nat} {t : ev_T} {pc : Nat} {Lc : ev_L} {stc : List Value} {hc : ev_H} {kc ks : Nat} {Q : Option Value → ev_H → Prop}
variable {pp0 a b pp : Nat} {i : Instr} {v : Value} {m : Nat → Nat → Int}
theorem m_cp {q0 q1 n0 n1 : Nat} (h0 : h_A q0 0 n0) (h1 : h_A q1 0 n1) {sp dp n : Int} (hf : ev_f t pc = some (pp0, i, a, b, pp, v)) (hk : ev_k i b = some 2) (hw : y_in yGw hc) (hm : gi hc = m) (s1 : 0 ≤ sp) (d1 : 0 ≤ dp) (k1 : 0 ≤ n) (s2 : sp + n ≤ n0) (d2 : dp + n ≤ n1) (b0 : n0 ≤ 1000) (b1 : n1 ≤ 1000) (f1 : 1 ≤ fr) (f2 : ev_sum stc + 18 ≤ lo) (h : ∀ hc', y_in yGw hc' → gi hc' = cpy m q0 sp.toNat q1 dp.toNat n.toNat → x_W sc (rt, ini, mx, na, rc, fr, lo, mc, ms, t) (pc + 3) Lc stc hc' kc ks Q) : x_W sc (rt, ini, mx, na, rc, fr, lo, mc, ms, t) pc Lc (fi n :: fi dp :: .ref q1 :: fi sp :: .ref q0 :: stc) hc kc ks Q := by
  obtain ⟨xs, e0, l0, -⟩ := h0 hc hw
  obtain ⟨ys, e1, l1, hs⟩ := h1 hc hw
  have neg : ∀ z : Int, 0 ≤ z → z ≤ 1000 → ¬ (Int32.ofInt z < 0) ∧ (Int32.ofInt z).toNatClampNeg = z.toNat := fun z z1 z2 => by
    have ez : (Int32.ofInt z).toInt = z := x_i32 (by omega) (by omega)
    refine ⟨?_, ?_⟩
    · rw [Int32.lt_iff_toInt_lt, ez]
      have e0 : (0 : Int32).toInt = 0 := rfl
      omega
    · show ((Int32.ofInt z).toInt).toNat = z.toNat
      rw [ez]
  obtain ⟨ns, ts⟩ := neg sp s1 (by omega)
  obtain ⟨nd, td⟩ := neg dp d1 (by omega)
  obtain ⟨nn, tn⟩ := neg n k1 (by omega)
  refine x_W_c hf hk (st' := stc) (hc' := hc.set q1 (.inl (0, ys.take dp.toNat ++ ((xs.drop sp.toNat).take n.toNat ++ ys.drop (dp.toNat + n.toNat))))) ?_ f1 f2 (h _ (hs _ ?_) ?_)
  · unfold ev_cp
    try dsimp only
    rw [e0, e1]
    show (if ¬ Int32.ofInt sp < 0 ∧ ¬ Int32.ofInt dp < 0 ∧ ¬ Int32.ofInt n < 0 ∧ (Int32.ofInt sp).toNatClampNeg + (Int32.ofInt n).toNatClampNeg ≤ xs.length ∧ (Int32.ofInt dp).toNatClampNeg + (Int32.ofInt n).toNatClampNeg ≤ ys.length then some (stc, hc.set q1 (.inl (0, ys.take (Int32.ofInt dp).toNatClampNeg ++ ((xs.drop (Int32.ofInt sp).toNatClampNeg).take (Int32.ofInt n).toNatClampNeg ++ ys.drop ((Int32.ofInt dp).toNatClampNeg + (Int32.ofInt n).toNatClampNeg))))) else none) = _
    rw [ts, td, tn, if_pos ⟨ns, nd, nn, by omega, by omega⟩]
  · simp only [List.length_append, List.length_take, List.length_drop]
    omega
  · funext q' j
    rw [gi_set_w e1, ← hm]
    unfold cpy
    by_cases hq : q' = q1
    · subst hq
      rw [if_pos rfl, gi_arr e0, gi_arr e1]
      by_cases hj : dp.toNat ≤ j ∧ j < dp.toNat + n.toNat
      · rw [if_pos ⟨rfl, hj.1, hj.2⟩]
        have : (ys.take dp.toNat ++ ((xs.drop sp.toNat).take n.toNat ++ ys.drop (dp.toNat + n.toNat)))[j]? = xs[sp.toNat + (j - dp.toNat)]? := by
          rw [List.getElem?_append_right (by rw [List.length_take]; omega), List.length_take, List.getElem?_append_left (by rw [List.length_take, List.length_drop]; omega), List.getElem?_take_of_lt (by omega), List.getElem?_drop]
          congr 1
          omega
        rw [this]
      · rw [if_neg (fun z => hj ⟨z.2.1, z.2.2⟩)]
        have : (ys.take dp.toNat ++ ((xs.drop sp.toNat).take n.toNat ++ ys.drop (dp.toNat + n.toNat)))[j]? = ys[j]? := by
          by_cases hlt : j < dp.toNat
          · rw [List.getElem?_append_left (by rw [List.length_take]; omega), List.getElem?_take_of_lt hlt]
          · rw [List.getElem?_append_right (by rw [List.length_take]; omega), List.length_take, List.getElem?_append_right (by rw [List.length_take, List.length_drop]; omega), List.length_take, List.length_drop, List.getElem?_drop]
            congr 1
            omega
        rw [this]
    · rw [if_neg hq, if_neg (fun z => hq z.1)]
end CPY
/-- the scene of the class as eighteen numbers (cells S + 1, S + 2, S + 3, fields 4 to 6 of S) -/
def cV (m : Nat → Nat → Int) (S : Nat) (i : Nat) : Int := if i < 5 then m (S + 1) i else if i < 10 then m (S + 2) (i - 5) else if i < 15 then m (S + 3) (i - 10) else m S (i - 11)
/-- saved in a row q; taken from a row q -/
def sav (m : Nat → Nat → Int) (S q : Nat) : Nat → Nat → Int := fun q' i => if q' = q ∧ i < 18 then cV m S i else m q' i
def lod (m : Nat → Nat → Int) (S q : Nat) : Nat → Nat → Int := fun q' i => if q' = S + 1 ∧ i < 5 then m q i else if q' = S + 2 ∧ i < 5 then m q (i + 5) else if q' = S + 3 ∧ i < 5 then m q (i + 10) else if q' = S ∧ 4 ≤ i ∧ i ≤ 6 then m q (i + 11) else m q' i
theorem sav_eq (m : Nat → Nat → Int) (S q : Nat) (h0 : q ≠ S) (h1 : q ≠ S + 1) (h2 : q ≠ S + 2) (h3 : q ≠ S + 3) : up (up (up (cpy (cpy (cpy m (S + 1) 0 q 0 5) (S + 2) 0 q 5 5) (S + 3) 0 q 10 5) q 15 (m S 4)) q 16 (m S 5)) q 17 (m S 6) = sav m S q := by
  funext q' i
  unfold up cpy sav cV
  by_cases hq : q' = q
  · subst hq
    by_cases c1 : i < 5
    · simp [c1, show ¬ i = 15 by omega, show ¬ i = 16 by omega, show ¬ i = 17 by omega, show ¬ 10 ≤ i by omega, show ¬ 5 ≤ i by omega, show i < 18 by omega]
    · by_cases c2 : i < 10
      · simp [c1, c2, show ¬ i = 15 by omega, show ¬ i = 16 by omega, show ¬ i = 17 by omega, show ¬ 10 ≤ i by omega, show 5 ≤ i by omega, show i < 18 by omega, Ne.symm h2]
      · by_cases c3 : i < 15
        · simp [c1, c2, c3, show ¬ i = 15 by omega, show ¬ i = 16 by omega, show ¬ i = 17 by omega, show 10 ≤ i by omega, show i < 18 by omega, Ne.symm h3]
        · by_cases c4 : i < 18
          · have : i = 15 ∨ i = 16 ∨ i = 17 := by omega
            rcases this with rfl | rfl | rfl <;> simp
          · simp [c1, c2, c3, c4, show ¬ i = 15 by omega, show ¬ i = 16 by omega, show ¬ i = 17 by omega]
  · simp [hq]
theorem cpy_ne {m : Nat → Nat → Int} {q0 sp q1 dp n q i : Nat} (h : q ≠ q1) : cpy m q0 sp q1 dp n q i = m q i := if_neg (fun z => h z.1)
theorem up_nc {m : Nat → Nat → Int} {q i q' i' : Nat} {v : Int} (h : q' ≠ q) : up m q i v q' i' = m q' i' := if_neg (fun z => h z.1)
theorem lod_eq (m : Nat → Nat → Int) (S q : Nat) (h0 : q ≠ S) (h1 : q ≠ S + 1) (h2 : q ≠ S + 2) (h3 : q ≠ S + 3) : up (up (up (cpy (cpy (cpy m q 0 (S + 1) 0 5) q 5 (S + 2) 0 5) q 10 (S + 3) 0 5) S 4 (m q 15)) S 5 (m q 16)) S 6 (m q 17) = lod m S q := by
  funext q' i
  unfold up cpy lod
  by_cases e1 : q' = S + 1
  · subst e1
    by_cases c : i < 5 <;> simp [c]
  · by_cases e2 : q' = S + 2
    · subst e2
      by_cases c : i < 5
      · simp [c, h1, Nat.add_comm]
      · simp [c]
    · by_cases e3 : q' = S + 3
      · subst e3
        by_cases c : i < 5
        · simp [c, h1, h2, Nat.add_comm]
        · simp [c]
      · by_cases e0 : q' = S
        · subst e0
          by_cases c4 : i = 4
          · subst c4; simp
          · by_cases c5 : i = 5
            · subst c5; simp
            · by_cases c6 : i = 6
              · subst c6; simp
              · simp [c4, c5, c6, show ¬ (4 ≤ i ∧ i ≤ 6) by omega]
        · simp [e0, e1, e2, e3]
theorem sa_row {j : Nat} (hj : j < 14) : h_A (19 + j) 0 18 := by
  have : j = 0 ∨ j = 1 ∨ j = 2 ∨ j = 3 ∨ j = 4 ∨ j = 5 ∨ j = 6 ∨ j = 7 ∨ j = 8 ∨ j = 9 ∨ j = 10 ∨ j = 11 ∨ j = 12 ∨ j = 13 := by omega
  rcases this with rfl | rfl | rfl | rfl | rfl | rfl | rfl | rfl | rfl | rfl | rfl | rfl | rfl | rfl
  · exact sa19
  · exact sa20
  · exact sa21
  · exact sa22
  · exact sa23
  · exact sa24
  · exact sa25
  · exact sa26
  · exact sa27
  · exact sa28
  · exact sa29
  · exact sa30
  · exact sa31
  · exact sa32
theorem sa_slot {j : Nat} (hj : j < 2) : h_A (35 + j) 0 18 := by
  have : j = 0 ∨ j = 1 := by omega
  rcases this with rfl | rfl
  · exact sa35
  · exact sa36
/-! the text: what is read there, and how the class reads it -/
def tx (m : Nat → Nat → Int) (i : Int) : Int := if 0 ≤ i ∧ i < m 1 1 then m 2 i.toNat else 0
def tw (m : Nat → Nat → Int) : Prop := (0 ≤ m 1 1 ∧ m 1 1 ≤ 40) ∧ ∀ i : Nat, i < 40 → 0 ≤ m 2 i ∧ m 2 i ≤ 65535
theorem tx_in {m : Nat → Nat → Int} {i : Int} (h : 0 ≤ i ∧ i < m 1 1) : tx m i = m 2 i.toNat := if_pos h
theorem tx_out {m : Nat → Nat → Int} {i : Int} (h : ¬ (0 ≤ i ∧ i < m 1 1)) : tx m i = 0 := if_neg h
theorem tx_r {m : Nat → Nat → Int} (hT : tw m) (i : Int) : 0 ≤ tx m i ∧ tx m i ≤ 65535 := by
  by_cases h : 0 ≤ i ∧ i < m 1 1
  · rw [tx_in h]
    exact hT.2 _ (by have := hT.1; omega)
  · rw [tx_out h]
    decide
def bI (b : Bool) : Int := match b with
  | true => 1
  | false => 0
theorem bI_r (b : Bool) : -2147483648 ≤ bI b ∧ bI b ≤ 2147483647 := by cases b <;> decide
theorem bI_01 (b : Bool) : bI b = 0 ∨ bI b = 1 := by cases b <;> decide
theorem bI0 {b : Bool} (h : bI b = 0) : b = false := by cases b with
  | false => rfl
  | true => exact absurd h (by decide)
theorem bI1 {b : Bool} (h : ¬ bI b = 0) : b = true := by cases b with
  | true => rfl
  | false => exact absurd rfl h
def isW (ln : Int) (t : Int → Int) (p a b : Int) : Bool := decide (p < ln ∧ (t p < a ∨ b < t p))
def nF (ln : Int) (t : Int → Int) (p : Int) : Int := if isW ln t (p + 1) 48 51 = true then p + 1 else if isW ln t (p + 2) 49 57 = true then p + 2 else if ln < p + 3 then ln else -9
def pF (ln : Int) (t : Int → Int) (p : Int) : Int := if isW ln t (p + 1) 48 57 = true then p + 1 else if isW ln t (p + 2) (t (p + 1)) 57 = true then p + 2 else if isW ln t (p + 3) 97 112 = true then p + 3 else if ln < p + 4 then ln else -9
abbrev pNs : Type := List (Int × Int)
abbrev pPs : Type := List (Int × Int × Int)
/-- the parts from place p on: the fault (or -9), names and people -/
noncomputable def pr (ln : Int) (t : Int → Int) (n : Nat) : Int → pNs → pPs → Int × pNs × pPs := Nat.rec (motive := fun _ => Int → pNs → pPs → Int × pNs × pPs) (fun _ ns ps => (-9, ns, ps)) (fun _ ih p ns ps =>
  if ln ≤ p then (-9, ns, ps)
  else if t p = 78 then (if 4 ≤ ns.length then (p, ns, ps) else if nF ln t p = -9 then ih (p + 3) (ns ++ [(t (p + 1) - 48, t (p + 2) - 48)]) ps else (nF ln t p, ns, ps))
  else if t p = 80 then (if 5 ≤ ps.length then (p, ns, ps) else if pF ln t p = -9 then ih (p + 4) ns (ps ++ [(t (p + 1) - 48, t (p + 2) - 48, t (p + 3) - 97)]) else (pF ln t p, ns, ps))
  else (p, ns, ps)) n
theorem pr_s (ln : Int) (t : Int → Int) (n : Nat) (p : Int) (ns : pNs) (ps : pPs) : pr ln t (n + 1) p ns ps = (if ln ≤ p then (-9, ns, ps)
  else if t p = 78 then (if 4 ≤ ns.length then (p, ns, ps) else if nF ln t p = -9 then pr ln t n (p + 3) (ns ++ [(t (p + 1) - 48, t (p + 2) - 48)]) ps else (nF ln t p, ns, ps))
  else if t p = 80 then (if 5 ≤ ps.length then (p, ns, ps) else if pF ln t p = -9 then pr ln t n (p + 4) ns (ps ++ [(t (p + 1) - 48, t (p + 2) - 48, t (p + 3) - 97)]) else (pF ln t p, ns, ps))
  else (p, ns, ps)) := rfl
theorem nF_r {m : Nat → Nat → Int} (hT : tw m) {p : Int} (h1 : 0 ≤ p) (h2 : p < m 1 1) : -9 ≤ nF (m 1 1) (tx m) p ∧ nF (m 1 1) (tx m) p ≤ 100 := by
  have := hT.1
  unfold nF
  split
  · omega
  · split
    · omega
    · split <;> omega
theorem pF_r {m : Nat → Nat → Int} (hT : tw m) {p : Int} (h1 : 0 ≤ p) (h2 : p < m 1 1) : -9 ≤ pF (m 1 1) (tx m) p ∧ pF (m 1 1) (tx m) p ≤ 100 := by
  have := hT.1
  unfold pF
  split
  · omega
  · split
    · omega
    · split
      · omega
      · split <;> omega
theorem t20 {m : Nat → Nat → Int} (hT : tw m) {x : Int} (rx : -2147483648 ≤ x ∧ x ≤ 2147483647) : h_M 20 [.ref 1, fi (x)] m (some (fi (tx m x))) m := h_M_of (R := ev_r20) rfl (fun hc hw hm => by
  have hL : f_L (lv_args 0 [.ref 1, fi (x)]) [(0, .ref 1), (1, fi (x))] := f_L_of rfl
  generalize lv_args 0 [.ref 1, fi (x)] = L at hL
  show x_W none (3, 0, 2, 1, 9, 0, 0, 0, 0, ev_t20) 0 L [] hc 0 0 _
  have hl := hT.1
  refine f_iln 1 rfl hL rfl ?_
  refine f_if rfl (by omega) (fun c1 => ?_) (fun c1 => ?_)
  · have c1 : (x : Int) < (0 : Int) := c1
    refine f_s [fi (0)] rfl rfl ?_
    exact m_ret3 rfl (by decide) ⟨by rw [tx_out (by omega)], hw, hm⟩
  · have c1 : ¬ ((x : Int) < (0 : Int)) := c1
    refine f_iln 1 rfl hL rfl ?_
    refine f_aln 0 rfl hL rfl ?_
    refine m_gfi so1 (m 1 1) rfl hw hm rfl rfl ?_
    refine f_ic rfl (by omega) (by omega) (fun c2 => ?_) (fun c2 => ?_)
    · have c2 : (m 1 1 : Int) ≤ (x : Int) := c2
      refine f_s [fi (0)] rfl rfl ?_
      exact m_ret3 rfl (by decide) ⟨by rw [tx_out (by omega)], hw, hm⟩
    · have c2 : ¬ ((m 1 1 : Int) ≤ (x : Int)) := c2
      refine f_iln 1 rfl hL rfl ?_
      refine f_aln 0 rfl hL rfl ?_
      refine m_gfr so1 rfl hw rfl (by decide) ?_
      refine m_al sa2 rfl hw (by decide) ?_
      refine f_ic rfl (by omega) (by omega) (fun c_9 => absurd (show (40 : Int) ≤ (x : Int) from c_9) (by omega)) (fun _ => ?_)
      refine f_aln 0 rfl hL rfl ?_
      refine m_gfr so1 rfl hw rfl (by decide) ?_
      refine f_iln 1 rfl hL rfl ?_
      refine m_ca sa2 (m 2 (x).toNat) rfl hw hm (by omega) (by omega) (by decide) rfl ?_
      refine f_goto rfl ?_
      exact m_ret3 rfl (hT.2 _ (by omega)) ⟨by rw [tx_in (by omega)], hw, hm⟩)
theorem t21 {m : Nat → Nat → Int} (hT : tw m) {p a b : Int} (rp : -2147483648 ≤ p ∧ p ≤ 2147483647) (ra : 0 ≤ a ∧ a ≤ 65535) (rb : 0 ≤ b ∧ b ≤ 65535) : h_M 21 [.ref 1, fi (p), fi (a), fi (b)] m (some (fi (bI (isW (m 1 1) (tx m) p a b)))) m := h_M_of (R := ev_r21) rfl (fun hc hw hm => by
  have hL : f_L (lv_args 0 [.ref 1, fi (p), fi (a), fi (b)]) [(0, .ref 1), (1, fi (p)), (2, fi (a)), (3, fi (b))] := f_L_of rfl
  generalize lv_args 0 [.ref 1, fi (p), fi (a), fi (b)] = L at hL
  show x_W none (2, 0, 4, 3, 9, 1, 21, 0, 0, ev_t21) 0 L [] hc 0 0 _
  have hl := hT.1
  have ht := tx_r hT p
  refine f_iln 1 rfl hL rfl ?_
  refine f_aln 0 rfl hL rfl ?_
  refine m_gfi so1 (m 1 1) rfl hw hm rfl rfl ?_
  refine f_ic rfl (by omega) (by omega) (fun c1 => ?_) (fun c1 => ?_)
  · have c1 : (m 1 1 : Int) ≤ (p : Int) := c1
    refine f_s [fi (0)] rfl rfl ?_
    exact f_ret2 rfl (Or.inl rfl) ⟨by rw [show isW (m 1 1) (tx m) p a b = false from decide_eq_false (by omega)]; rfl, hw, hm⟩
  · have c1 : ¬ ((m 1 1 : Int) ≤ (p : Int)) := c1
    refine f_aln 0 rfl hL rfl ?_
    refine f_iln 1 rfl hL rfl ?_
    refine m_k1 (t20 hT rp) hw hm rfl rfl rfl (m_ar so1 hw rfl) rfl (fun hc1 hw1 hm1 => ?_)
    refine f_iln 2 rfl hL rfl ?_
    refine f_ic rfl (by omega) (by omega) (fun c2 => ?_) (fun c2 => ?_)
    · have c2 : (tx m p : Int) < (a : Int) := c2
      refine f_s [fi (1)] rfl rfl ?_
      refine f_goto rfl ?_
      exact f_ret2 rfl (Or.inr rfl) ⟨by rw [show isW (m 1 1) (tx m) p a b = true from decide_eq_true (by omega)]; rfl, hw1, hm1⟩
    · have c2 : ¬ ((tx m p : Int) < (a : Int)) := c2
      refine f_aln 0 rfl hL rfl ?_
      refine f_iln 1 rfl hL rfl ?_
      refine m_k1 (t20 hT rp) hw1 hm1 rfl rfl rfl (m_ar so1 hw1 rfl) rfl (fun hc2 hw2 hm2 => ?_)
      refine f_iln 3 rfl hL rfl ?_
      refine f_ic rfl (by omega) (by omega) (fun c3 => ?_) (fun c3 => ?_)
      · have c3 : (tx m p : Int) ≤ (b : Int) := c3
        refine f_s [fi (0)] rfl rfl ?_
        exact f_ret2 rfl (Or.inl rfl) ⟨by rw [show isW (m 1 1) (tx m) p a b = false from decide_eq_false (by omega)]; rfl, hw2, hm2⟩
      · have c3 : ¬ ((tx m p : Int) ≤ (b : Int)) := c3
        refine f_s [fi (1)] rfl rfl ?_
        refine f_goto rfl ?_
        exact f_ret2 rfl (Or.inr rfl) ⟨by rw [show isW (m 1 1) (tx m) p a b = true from decide_eq_true (by omega)]; rfl, hw2, hm2⟩)
theorem t22 {m : Nat → Nat → Int} (hT : tw m) {p : Int} (p1 : 0 ≤ p) (p2 : p ≤ 100) : h_M 22 [.ref 1, fi (p)] m (some (fi (nF (m 1 1) (tx m) p))) m := h_M_of (R := ev_r22) rfl (fun hc hw hm => by
  have hL : f_L (lv_args 0 [.ref 1, fi (p)]) [(0, .ref 1), (1, fi (p))] := f_L_of rfl
  generalize lv_args 0 [.ref 1, fi (p)] = L at hL
  show x_W none (1, 0, 2, 1, 9, 2, 44, 0, 0, ev_t22) 0 L [] hc 0 0 _
  have hl := hT.1
  refine f_aln 0 rfl hL rfl ?_
  refine f_iln 1 rfl hL rfl ?_
  refine f_s [fi (1), fi (p), .ref 1] rfl rfl ?_
  refine f_iadd rfl ?_
  refine f_bipush (n := 48) rfl (by decide) ?_
  refine f_bipush (n := 51) rfl (by decide) ?_
  refine m_k1 (t21 hT (by omega) (by decide) (by decide)) hw hm rfl rfl rfl (m_ar so1 hw rfl) rfl (fun hc1 hw1 hm1 => ?_)
  refine f_if rfl (bI_r _) (fun c1 => ?_) (fun c1 => ?_)
  · have c1 : (bI (isW (m 1 1) (tx m) (p + 1) 48 51) : Int) = (0 : Int) := c1
    refine f_aln 0 rfl hL rfl ?_
    refine f_iln 1 rfl hL rfl ?_
    refine f_s [fi (2), fi (p), .ref 1] rfl rfl ?_
    refine f_iadd rfl ?_
    refine f_bipush (n := 49) rfl (by decide) ?_
    refine f_bipush (n := 57) rfl (by decide) ?_
    refine m_k1 (t21 hT (by omega) (by decide) (by decide)) hw1 hm1 rfl rfl rfl (m_ar so1 hw1 rfl) rfl (fun hc2 hw2 hm2 => ?_)
    refine f_if rfl (bI_r _) (fun c2 => ?_) (fun c2 => ?_)
    · have c2 : (bI (isW (m 1 1) (tx m) (p + 2) 49 57) : Int) = (0 : Int) := c2
      refine f_iln 1 rfl hL rfl ?_
      refine f_s [fi (3), fi (p)] rfl rfl ?_
      refine f_iadd rfl ?_
      refine f_aln 0 rfl hL rfl ?_
      refine m_gfi so1 (m 1 1) rfl hw2 hm2 rfl rfl ?_
      refine f_ic rfl (by omega) (by omega) (fun c3 => ?_) (fun c3 => ?_)
      · have c3 : (p + 3 : Int) ≤ (m 1 1 : Int) := c3
        refine f_bipush (n := -9) rfl (by decide) ?_
        exact f_ret1 rfl ⟨by unfold nF; rw [if_neg (by rw [bI0 c1]; decide), if_neg (by rw [bI0 c2]; decide), if_neg (by omega)], hw2, hm2⟩
      · have c3 : ¬ ((p + 3 : Int) ≤ (m 1 1 : Int)) := c3
        refine f_aln 0 rfl hL rfl ?_
        refine m_gfi so1 (m 1 1) rfl hw2 hm2 rfl rfl ?_
        refine f_goto rfl ?_
        exact f_ret1 rfl ⟨by unfold nF; rw [if_neg (by rw [bI0 c1]; decide), if_neg (by rw [bI0 c2]; decide), if_pos (by omega)], hw2, hm2⟩
    · have c2 : ¬ ((bI (isW (m 1 1) (tx m) (p + 2) 49 57) : Int) = (0 : Int)) := c2
      refine f_iln 1 rfl hL rfl ?_
      refine f_s [fi (2), fi (p)] rfl rfl ?_
      refine f_iadd rfl ?_
      exact f_ret1 rfl ⟨by unfold nF; rw [if_neg (by rw [bI0 c1]; decide), if_pos (bI1 c2)], hw2, hm2⟩
  · have c1 : ¬ ((bI (isW (m 1 1) (tx m) (p + 1) 48 51) : Int) = (0 : Int)) := c1
    refine f_iln 1 rfl hL rfl ?_
    refine f_s [fi (1), fi (p)] rfl rfl ?_
    refine f_iadd rfl ?_
    exact f_ret1 rfl ⟨by unfold nF; rw [if_pos (bI1 c1)], hw1, hm1⟩)
theorem t23 {m : Nat → Nat → Int} (hT : tw m) {p : Int} (p1 : 0 ≤ p) (p2 : p ≤ 100) : h_M 23 [.ref 1, fi (p)] m (some (fi (pF (m 1 1) (tx m) p))) m := h_M_of (R := ev_r23) rfl (fun hc hw hm => by
  have hL : f_L (lv_args 0 [.ref 1, fi (p)]) [(0, .ref 1), (1, fi (p))] := f_L_of rfl
  generalize lv_args 0 [.ref 1, fi (p)] = L at hL
  show x_W none (1, 0, 2, 1, 9, 2, 44, 0, 0, ev_t23) 0 L [] hc 0 0 _
  have hl := hT.1
  refine f_aln 0 rfl hL rfl ?_
  refine f_iln 1 rfl hL rfl ?_
  refine f_s [fi (1), fi (p), .ref 1] rfl rfl ?_
  refine f_iadd rfl ?_
  refine f_bipush (n := 48) rfl (by decide) ?_
  refine f_bipush (n := 57) rfl (by decide) ?_
  refine m_k1 (t21 hT (by omega) (by decide) (by decide)) hw hm rfl rfl rfl (m_ar so1 hw rfl) rfl (fun hc1 hw1 hm1 => ?_)
  refine f_if rfl (bI_r _) (fun c1 => ?_) (fun c1 => ?_)
  · have c1 : (bI (isW (m 1 1) (tx m) (p + 1) 48 57) : Int) = (0 : Int) := c1
    refine f_aln 0 rfl hL rfl ?_
    refine f_iln 1 rfl hL rfl ?_
    refine f_s [fi (2), fi (p), .ref 1] rfl rfl ?_
    refine f_iadd rfl ?_
    refine f_aln 0 rfl hL rfl ?_
    refine f_iln 1 rfl hL rfl ?_
    refine f_s [fi (1), fi (p), .ref 1, fi (p + 2), .ref 1] rfl rfl ?_
    refine f_iadd rfl ?_
    refine m_k1 (t20 hT (by omega)) hw1 hm1 rfl rfl rfl (m_ar so1 hw1 rfl) rfl (fun hc2 hw2 hm2 => ?_)
    refine f_bipush (n := 57) rfl (by decide) ?_
    refine m_k1 (t21 hT (by omega) (tx_r hT _) (by decide)) hw2 hm2 rfl rfl rfl (m_ar so1 hw2 rfl) rfl (fun hc3 hw3 hm3 => ?_)
    refine f_if rfl (bI_r _) (fun c2 => ?_) (fun c2 => ?_)
    · have c2 : (bI (isW (m 1 1) (tx m) (p + 2) (tx m (p + 1)) 57) : Int) = (0 : Int) := c2
      refine f_aln 0 rfl hL rfl ?_
      refine f_iln 1 rfl hL rfl ?_
      refine f_s [fi (3), fi (p), .ref 1] rfl rfl ?_
      refine f_iadd rfl ?_
      refine f_bipush (n := 97) rfl (by decide) ?_
      refine f_bipush (n := 112) rfl (by decide) ?_
      refine m_k1 (t21 hT (by omega) (by decide) (by decide)) hw3 hm3 rfl rfl rfl (m_ar so1 hw3 rfl) rfl (fun hc4 hw4 hm4 => ?_)
      refine f_if rfl (bI_r _) (fun c3 => ?_) (fun c3 => ?_)
      · have c3 : (bI (isW (m 1 1) (tx m) (p + 3) 97 112) : Int) = (0 : Int) := c3
        refine f_iln 1 rfl hL rfl ?_
        refine f_s [fi (4), fi (p)] rfl rfl ?_
        refine f_iadd rfl ?_
        refine f_aln 0 rfl hL rfl ?_
        refine m_gfi so1 (m 1 1) rfl hw4 hm4 rfl rfl ?_
        refine f_ic rfl (by omega) (by omega) (fun c4 => ?_) (fun c4 => ?_)
        · have c4 : (p + 4 : Int) ≤ (m 1 1 : Int) := c4
          refine f_bipush (n := -9) rfl (by decide) ?_
          exact f_ret1 rfl ⟨by unfold pF; rw [if_neg (by rw [bI0 c1]; decide), if_neg (by rw [bI0 c2]; decide), if_neg (by rw [bI0 c3]; decide), if_neg (by omega)], hw4, hm4⟩
        · have c4 : ¬ ((p + 4 : Int) ≤ (m 1 1 : Int)) := c4
          refine f_aln 0 rfl hL rfl ?_
          refine m_gfi so1 (m 1 1) rfl hw4 hm4 rfl rfl ?_
          refine f_goto rfl ?_
          exact f_ret1 rfl ⟨by unfold pF; rw [if_neg (by rw [bI0 c1]; decide), if_neg (by rw [bI0 c2]; decide), if_neg (by rw [bI0 c3]; decide), if_pos (by omega)], hw4, hm4⟩
      · have c3 : ¬ ((bI (isW (m 1 1) (tx m) (p + 3) 97 112) : Int) = (0 : Int)) := c3
        refine f_iln 1 rfl hL rfl ?_
        refine f_s [fi (3), fi (p)] rfl rfl ?_
        refine f_iadd rfl ?_
        exact f_ret1 rfl ⟨by unfold pF; rw [if_neg (by rw [bI0 c1]; decide), if_neg (by rw [bI0 c2]; decide), if_pos (bI1 c3)], hw4, hm4⟩
    · have c2 : ¬ ((bI (isW (m 1 1) (tx m) (p + 2) (tx m (p + 1)) 57) : Int) = (0 : Int)) := c2
      refine f_iln 1 rfl hL rfl ?_
      refine f_s [fi (2), fi (p)] rfl rfl ?_
      refine f_iadd rfl ?_
      exact f_ret1 rfl ⟨by unfold pF; rw [if_neg (by rw [bI0 c1]; decide), if_pos (bI1 c2)], hw3, hm3⟩
  · have c1 : ¬ ((bI (isW (m 1 1) (tx m) (p + 1) 48 57) : Int) = (0 : Int)) := c1
    refine f_iln 1 rfl hL rfl ?_
    refine f_s [fi (1), fi (p)] rfl rfl ?_
    refine f_iadd rfl ?_
    exact f_ret1 rfl ⟨by unfold pF; rw [if_pos (bI1 c1)], hw1, hm1⟩)
set_option maxHeartbeats 4000000 in
theorem t24_loop {m : Nat → Nat → Int} (hT : tw m) : ∀ (n : Nat) (p : Int) (ns : pNs) (ps : pPs) (hc : ev_H) (L : ev_L), y_in yGw hc → gi hc = m → 1 ≤ p → p ≤ 44 → (m 1 1 - p).toNat ≤ n → ns.length ≤ 4 → ps.length ≤ 5 → f_L L [(3, fi (p)), (2, fi ((ps.length : Int))), (1, fi ((ns.length : Int))), (0, .ref 1)] → x_W none (1, 0, 7, 0, 9, 3, 65, 0, 0, ev_t24) 18 L [] hc 0 0 (fun r h' => r = some (fi (pr (m 1 1) (tx m) n p ns ps).1) ∧ y_in yGw h' ∧ gi h' = m) := by
  have hl := hT.1
  intro n
  induction n with
  | zero =>
    intro p ns ps hc L hw hm p1 p2 hn l1 l2 hL
    refine f_iln 0 rfl hL rfl ?_
    refine f_aln 3 rfl hL rfl ?_
    refine m_gfi so1 (m 1 1) rfl hw hm rfl rfl ?_
    refine f_ic rfl (by omega) (by omega) (fun _ => ?_) (fun c_9 => absurd (show (m 1 1 : Int) ≤ (p : Int) from (by omega)) c_9)
    refine f_bipush (n := -9) rfl (by decide) ?_
    exact f_ret1 rfl ⟨rfl, hw, hm⟩
  | succ n ih =>
    intro p ns ps hc L hw hm p1 p2 hn l1 l2 hL
    have ht := tx_r hT p
    refine f_iln 0 rfl hL rfl ?_
    refine f_aln 3 rfl hL rfl ?_
    refine m_gfi so1 (m 1 1) rfl hw hm rfl rfl ?_
    refine f_ic rfl (by omega) (by omega) (fun c0 => ?_) (fun c0 => ?_)
    · have c0 : m 1 1 ≤ p := c0
      refine f_bipush (n := -9) rfl (by decide) ?_
      exact f_ret1 rfl ⟨by rw [pr_s, if_pos c0], hw, hm⟩
    · have c0 : ¬ m 1 1 ≤ p := c0
      by_cases hN : tx m p = 78
      · by_cases hF4 : 4 ≤ ns.length
        · skip
          refine f_aln 3 rfl hL rfl ?_
          refine f_iln 0 rfl hL rfl ?_
          refine m_k1 (t20 hT (by omega)) hw hm rfl rfl rfl (m_ar so1 hw rfl) rfl (fun hc1 hw1 hm1 => ?_)
          refine f_bipush (n := 78) rfl (by decide) ?_
          refine f_ic rfl (by omega) (by omega) (fun c_9 => absurd (show ¬ (tx m p : Int) = (78 : Int) from c_9) (fun z => z hN)) (fun _ => ?_)
          refine f_s [fi (1)] rfl rfl ?_
          refine f_goto rfl ?_
          refine f_ist [(4, fi (1)), (3, fi (p)), (2, fi ((ps.length : Int))), (1, fi ((ns.length : Int))), (0, .ref 1)] rfl (by decide) hL rfl (fun L1 hL1 => ?_)
          refine f_aln 4 rfl hL1 rfl ?_
          refine f_iln 1 rfl hL1 rfl ?_
          refine m_k1 (t20 hT (by omega)) hw1 hm1 rfl rfl rfl (m_ar so1 hw1 rfl) rfl (fun hc2 hw2 hm2 => ?_)
          refine f_bipush (n := 80) rfl (by decide) ?_
          refine f_ic rfl (by omega) (by omega) (fun _ => ?_) (fun c_9 => absurd (show ¬ (tx m p : Int) = (80 : Int) from (show ¬ tx m p = 80 by omega)) c_9)
          refine f_s [fi (0)] rfl rfl ?_
          refine f_ist [(5, fi (0)), (4, fi (1)), (3, fi (p)), (2, fi ((ps.length : Int))), (1, fi ((ns.length : Int))), (0, .ref 1)] rfl (by decide) hL1 rfl (fun L2 hL2 => ?_)
          refine f_iln 4 rfl hL2 rfl ?_
          refine f_il 1 rfl hL2 rfl ?_
          refine f_if rfl (by decide) (fun c_9 => absurd (show (1 : Int) = (0 : Int) from c_9) (by decide)) (fun _ => ?_)
          refine f_s [fi (1), fi ((ns.length : Int))] rfl rfl ?_
          refine f_goto rfl ?_
          refine f_iadd rfl ?_
          refine f_istn [(1, fi (((ns.length : Int)) + 1)), (5, fi (0)), (4, fi (1)), (3, fi (p)), (2, fi ((ps.length : Int))), (0, .ref 1)] rfl (by decide) hL2 rfl (fun L3 hL3 => ?_)
          refine f_iln 4 rfl hL3 rfl ?_
          refine f_il 1 rfl hL3 rfl ?_
          refine f_if rfl (by decide) (fun _ => ?_) (fun c_9 => absurd (show (0 : Int) = (0 : Int) from (by decide)) c_9)
          refine f_s [fi (0), fi ((ps.length : Int))] rfl rfl ?_
          refine f_iadd rfl ?_
          refine f_istn [(2, fi (((ps.length : Int)) + 0)), (1, fi (((ns.length : Int)) + 1)), (5, fi (0)), (4, fi (1)), (3, fi (p)), (0, .ref 1)] rfl (by decide) hL3 rfl (fun L4 hL4 => ?_)
          refine f_il 3 rfl hL4 rfl ?_
          refine f_if rfl (by decide) (fun _ => ?_) (fun c_9 => absurd (show ¬ (1 : Int) = (0 : Int) from (by decide)) c_9)
          refine f_iln 1 rfl hL4 rfl ?_
          refine f_s [fi (4), fi (((ns.length : Int)) + 1)] rfl rfl ?_
          refine f_ic rfl (by omega) (by omega) (fun _ => ?_) (fun c_9 => absurd (show (4 : Int) < (((ns.length : Int)) + 1 : Int) from (by omega)) c_9)
          refine f_iln 4 rfl hL4 rfl ?_
          exact f_ret1 rfl ⟨by rw [pr_s, if_neg (by omega), if_pos hN, if_pos (by omega)], hw2, hm2⟩
        · have rF := nF_r hT (p := p) (by omega) (by omega)
          by_cases hF : nF (m 1 1) (tx m) p = -9
          · skip
            refine f_aln 3 rfl hL rfl ?_
            refine f_iln 0 rfl hL rfl ?_
            refine m_k1 (t20 hT (by omega)) hw hm rfl rfl rfl (m_ar so1 hw rfl) rfl (fun hc1 hw1 hm1 => ?_)
            refine f_bipush (n := 78) rfl (by decide) ?_
            refine f_ic rfl (by omega) (by omega) (fun c_9 => absurd (show ¬ (tx m p : Int) = (78 : Int) from c_9) (fun z => z hN)) (fun _ => ?_)
            refine f_s [fi (1)] rfl rfl ?_
            refine f_goto rfl ?_
            refine f_ist [(4, fi (1)), (3, fi (p)), (2, fi ((ps.length : Int))), (1, fi ((ns.length : Int))), (0, .ref 1)] rfl (by decide) hL rfl (fun L1 hL1 => ?_)
            refine f_aln 4 rfl hL1 rfl ?_
            refine f_iln 1 rfl hL1 rfl ?_
            refine m_k1 (t20 hT (by omega)) hw1 hm1 rfl rfl rfl (m_ar so1 hw1 rfl) rfl (fun hc2 hw2 hm2 => ?_)
            refine f_bipush (n := 80) rfl (by decide) ?_
            refine f_ic rfl (by omega) (by omega) (fun _ => ?_) (fun c_9 => absurd (show ¬ (tx m p : Int) = (80 : Int) from (show ¬ tx m p = 80 by omega)) c_9)
            refine f_s [fi (0)] rfl rfl ?_
            refine f_ist [(5, fi (0)), (4, fi (1)), (3, fi (p)), (2, fi ((ps.length : Int))), (1, fi ((ns.length : Int))), (0, .ref 1)] rfl (by decide) hL1 rfl (fun L2 hL2 => ?_)
            refine f_iln 4 rfl hL2 rfl ?_
            refine f_il 1 rfl hL2 rfl ?_
            refine f_if rfl (by decide) (fun c_9 => absurd (show (1 : Int) = (0 : Int) from c_9) (by decide)) (fun _ => ?_)
            refine f_s [fi (1), fi ((ns.length : Int))] rfl rfl ?_
            refine f_goto rfl ?_
            refine f_iadd rfl ?_
            refine f_istn [(1, fi (((ns.length : Int)) + 1)), (5, fi (0)), (4, fi (1)), (3, fi (p)), (2, fi ((ps.length : Int))), (0, .ref 1)] rfl (by decide) hL2 rfl (fun L3 hL3 => ?_)
            refine f_iln 4 rfl hL3 rfl ?_
            refine f_il 1 rfl hL3 rfl ?_
            refine f_if rfl (by decide) (fun _ => ?_) (fun c_9 => absurd (show (0 : Int) = (0 : Int) from (by decide)) c_9)
            refine f_s [fi (0), fi ((ps.length : Int))] rfl rfl ?_
            refine f_iadd rfl ?_
            refine f_istn [(2, fi (((ps.length : Int)) + 0)), (1, fi (((ns.length : Int)) + 1)), (5, fi (0)), (4, fi (1)), (3, fi (p)), (0, .ref 1)] rfl (by decide) hL3 rfl (fun L4 hL4 => ?_)
            refine f_il 3 rfl hL4 rfl ?_
            refine f_if rfl (by decide) (fun _ => ?_) (fun c_9 => absurd (show ¬ (1 : Int) = (0 : Int) from (by decide)) c_9)
            refine f_iln 1 rfl hL4 rfl ?_
            refine f_s [fi (4), fi (((ns.length : Int)) + 1)] rfl rfl ?_
            refine f_ic rfl (by omega) (by omega) (fun c_9 => absurd (show (4 : Int) < (((ns.length : Int)) + 1 : Int) from c_9) (by omega)) (fun _ => ?_)
            refine f_iln 0 rfl hL4 rfl ?_
            refine f_s [fi (5), fi (((ps.length : Int)) + 0)] rfl rfl ?_
            refine f_ic rfl (by omega) (by omega) (fun _ => ?_) (fun c_9 => absurd (show (((ps.length : Int)) + 0 : Int) ≤ (5 : Int) from (by omega)) c_9)
            refine f_il 3 rfl hL4 rfl ?_
            refine f_if rfl (by decide) (fun c_9 => absurd (show (1 : Int) = (0 : Int) from c_9) (by decide)) (fun _ => ?_)
            refine f_aln 5 rfl hL4 rfl ?_
            refine f_iln 4 rfl hL4 rfl ?_
            refine m_k1 (t22 hT (by omega) (by omega)) hw2 hm2 rfl rfl rfl (m_ar so1 hw2 rfl) rfl (fun hc3 hw3 hm3 => ?_)
            refine f_goto rfl ?_
            refine f_ist [(6, fi (nF (m 1 1) (tx m) p)), (2, fi (((ps.length : Int)) + 0)), (1, fi (((ns.length : Int)) + 1)), (5, fi (0)), (4, fi (1)), (3, fi (p)), (0, .ref 1)] rfl (by decide) hL4 rfl (fun L5 hL5 => ?_)
            refine f_il 0 rfl hL5 rfl ?_
            refine f_bipush (n := -9) rfl (by decide) ?_
            refine f_ic rfl (by omega) (by omega) (fun _ => ?_) (fun c_9 => absurd (show (nF (m 1 1) (tx m) p : Int) = (-9 : Int) from hF) c_9)
            refine f_iln 5 rfl hL5 rfl ?_
            refine f_aln 6 rfl hL5 rfl ?_
            refine f_iln 5 rfl hL5 rfl ?_
            refine m_k1 (t20 hT (by omega)) hw3 hm3 rfl rfl rfl (m_ar so1 hw3 rfl) rfl (fun hc4 hw4 hm4 => ?_)
            refine f_bipush (n := 78) rfl (by decide) ?_
            refine f_ic rfl (by omega) (by omega) (fun c_9 => absurd (show ¬ (tx m p : Int) = (78 : Int) from c_9) (fun z => z hN)) (fun _ => ?_)
            refine f_s [fi (3), fi (p)] rfl rfl ?_
            refine f_goto rfl ?_
            refine f_iadd rfl ?_
            refine f_istn [(3, fi (p + 3)), (6, fi (nF (m 1 1) (tx m) p)), (2, fi (((ps.length : Int)) + 0)), (1, fi (((ns.length : Int)) + 1)), (5, fi (0)), (4, fi (1)), (0, .ref 1)] rfl (by decide) hL5 rfl (fun L6 hL6 => ?_)
            refine f_goto rfl ?_
            have e1 : ((ns ++ [(tx m (p + 1) - 48, tx m (p + 2) - 48)]).length : Int) = (ns.length : Int) + 1 := by rw [List.length_append]; rfl
            have e2 : ((ps).length : Int) = (ps.length : Int) + 0 := by omega
            have := ih (p + 3) (ns ++ [(tx m (p + 1) - 48, tx m (p + 2) - 48)]) (ps) hc4 _ hw4 hm4 (by omega) (by omega) (by omega) (by omega) (by omega) (by rw [e1, e2]; exact hL6.sel [0, 2, 3, 6] rfl)
            rw [pr_s, if_neg (by omega), if_pos hN, if_neg (by omega), if_pos hF]
            exact this
          · skip
            refine f_aln 3 rfl hL rfl ?_
            refine f_iln 0 rfl hL rfl ?_
            refine m_k1 (t20 hT (by omega)) hw hm rfl rfl rfl (m_ar so1 hw rfl) rfl (fun hc1 hw1 hm1 => ?_)
            refine f_bipush (n := 78) rfl (by decide) ?_
            refine f_ic rfl (by omega) (by omega) (fun c_9 => absurd (show ¬ (tx m p : Int) = (78 : Int) from c_9) (fun z => z hN)) (fun _ => ?_)
            refine f_s [fi (1)] rfl rfl ?_
            refine f_goto rfl ?_
            refine f_ist [(4, fi (1)), (3, fi (p)), (2, fi ((ps.length : Int))), (1, fi ((ns.length : Int))), (0, .ref 1)] rfl (by decide) hL rfl (fun L1 hL1 => ?_)
            refine f_aln 4 rfl hL1 rfl ?_
            refine f_iln 1 rfl hL1 rfl ?_
            refine m_k1 (t20 hT (by omega)) hw1 hm1 rfl rfl rfl (m_ar so1 hw1 rfl) rfl (fun hc2 hw2 hm2 => ?_)
            refine f_bipush (n := 80) rfl (by decide) ?_
            refine f_ic rfl (by omega) (by omega) (fun _ => ?_) (fun c_9 => absurd (show ¬ (tx m p : Int) = (80 : Int) from (show ¬ tx m p = 80 by omega)) c_9)
            refine f_s [fi (0)] rfl rfl ?_
            refine f_ist [(5, fi (0)), (4, fi (1)), (3, fi (p)), (2, fi ((ps.length : Int))), (1, fi ((ns.length : Int))), (0, .ref 1)] rfl (by decide) hL1 rfl (fun L2 hL2 => ?_)
            refine f_iln 4 rfl hL2 rfl ?_
            refine f_il 1 rfl hL2 rfl ?_
            refine f_if rfl (by decide) (fun c_9 => absurd (show (1 : Int) = (0 : Int) from c_9) (by decide)) (fun _ => ?_)
            refine f_s [fi (1), fi ((ns.length : Int))] rfl rfl ?_
            refine f_goto rfl ?_
            refine f_iadd rfl ?_
            refine f_istn [(1, fi (((ns.length : Int)) + 1)), (5, fi (0)), (4, fi (1)), (3, fi (p)), (2, fi ((ps.length : Int))), (0, .ref 1)] rfl (by decide) hL2 rfl (fun L3 hL3 => ?_)
            refine f_iln 4 rfl hL3 rfl ?_
            refine f_il 1 rfl hL3 rfl ?_
            refine f_if rfl (by decide) (fun _ => ?_) (fun c_9 => absurd (show (0 : Int) = (0 : Int) from (by decide)) c_9)
            refine f_s [fi (0), fi ((ps.length : Int))] rfl rfl ?_
            refine f_iadd rfl ?_
            refine f_istn [(2, fi (((ps.length : Int)) + 0)), (1, fi (((ns.length : Int)) + 1)), (5, fi (0)), (4, fi (1)), (3, fi (p)), (0, .ref 1)] rfl (by decide) hL3 rfl (fun L4 hL4 => ?_)
            refine f_il 3 rfl hL4 rfl ?_
            refine f_if rfl (by decide) (fun _ => ?_) (fun c_9 => absurd (show ¬ (1 : Int) = (0 : Int) from (by decide)) c_9)
            refine f_iln 1 rfl hL4 rfl ?_
            refine f_s [fi (4), fi (((ns.length : Int)) + 1)] rfl rfl ?_
            refine f_ic rfl (by omega) (by omega) (fun c_9 => absurd (show (4 : Int) < (((ns.length : Int)) + 1 : Int) from c_9) (by omega)) (fun _ => ?_)
            refine f_iln 0 rfl hL4 rfl ?_
            refine f_s [fi (5), fi (((ps.length : Int)) + 0)] rfl rfl ?_
            refine f_ic rfl (by omega) (by omega) (fun _ => ?_) (fun c_9 => absurd (show (((ps.length : Int)) + 0 : Int) ≤ (5 : Int) from (by omega)) c_9)
            refine f_il 3 rfl hL4 rfl ?_
            refine f_if rfl (by decide) (fun c_9 => absurd (show (1 : Int) = (0 : Int) from c_9) (by decide)) (fun _ => ?_)
            refine f_aln 5 rfl hL4 rfl ?_
            refine f_iln 4 rfl hL4 rfl ?_
            refine m_k1 (t22 hT (by omega) (by omega)) hw2 hm2 rfl rfl rfl (m_ar so1 hw2 rfl) rfl (fun hc3 hw3 hm3 => ?_)
            refine f_goto rfl ?_
            refine f_ist [(6, fi (nF (m 1 1) (tx m) p)), (2, fi (((ps.length : Int)) + 0)), (1, fi (((ns.length : Int)) + 1)), (5, fi (0)), (4, fi (1)), (3, fi (p)), (0, .ref 1)] rfl (by decide) hL4 rfl (fun L5 hL5 => ?_)
            refine f_il 0 rfl hL5 rfl ?_
            refine f_bipush (n := -9) rfl (by decide) ?_
            refine f_ic rfl (by omega) (by omega) (fun c_9 => absurd (show (nF (m 1 1) (tx m) p : Int) = (-9 : Int) from c_9) hF) (fun _ => ?_)
            refine f_il 0 rfl hL5 rfl ?_
            exact f_ret1 rfl ⟨by rw [pr_s, if_neg (by omega), if_pos hN, if_neg (by omega), if_neg hF], hw3, hm3⟩
      · by_cases hP : tx m p = 80
        · by_cases hF5 : 5 ≤ ps.length
          · skip
            refine f_aln 3 rfl hL rfl ?_
            refine f_iln 0 rfl hL rfl ?_
            refine m_k1 (t20 hT (by omega)) hw hm rfl rfl rfl (m_ar so1 hw rfl) rfl (fun hc1 hw1 hm1 => ?_)
            refine f_bipush (n := 78) rfl (by decide) ?_
            refine f_ic rfl (by omega) (by omega) (fun _ => ?_) (fun c_9 => absurd (show ¬ (tx m p : Int) = (78 : Int) from (show ¬ tx m p = 78 by omega)) c_9)
            refine f_s [fi (0)] rfl rfl ?_
            refine f_ist [(4, fi (0)), (3, fi (p)), (2, fi ((ps.length : Int))), (1, fi ((ns.length : Int))), (0, .ref 1)] rfl (by decide) hL rfl (fun L1 hL1 => ?_)
            refine f_aln 4 rfl hL1 rfl ?_
            refine f_iln 1 rfl hL1 rfl ?_
            refine m_k1 (t20 hT (by omega)) hw1 hm1 rfl rfl rfl (m_ar so1 hw1 rfl) rfl (fun hc2 hw2 hm2 => ?_)
            refine f_bipush (n := 80) rfl (by decide) ?_
            refine f_ic rfl (by omega) (by omega) (fun c_9 => absurd (show ¬ (tx m p : Int) = (80 : Int) from c_9) (fun z => z hP)) (fun _ => ?_)
            refine f_s [fi (1)] rfl rfl ?_
            refine f_goto rfl ?_
            refine f_ist [(5, fi (1)), (4, fi (0)), (3, fi (p)), (2, fi ((ps.length : Int))), (1, fi ((ns.length : Int))), (0, .ref 1)] rfl (by decide) hL1 rfl (fun L2 hL2 => ?_)
            refine f_iln 4 rfl hL2 rfl ?_
            refine f_il 1 rfl hL2 rfl ?_
            refine f_if rfl (by decide) (fun _ => ?_) (fun c_9 => absurd (show (0 : Int) = (0 : Int) from (by decide)) c_9)
            refine f_s [fi (0), fi ((ns.length : Int))] rfl rfl ?_
            refine f_iadd rfl ?_
            refine f_istn [(1, fi (((ns.length : Int)) + 0)), (5, fi (1)), (4, fi (0)), (3, fi (p)), (2, fi ((ps.length : Int))), (0, .ref 1)] rfl (by decide) hL2 rfl (fun L3 hL3 => ?_)
            refine f_iln 4 rfl hL3 rfl ?_
            refine f_il 1 rfl hL3 rfl ?_
            refine f_if rfl (by decide) (fun c_9 => absurd (show (1 : Int) = (0 : Int) from c_9) (by decide)) (fun _ => ?_)
            refine f_s [fi (1), fi ((ps.length : Int))] rfl rfl ?_
            refine f_goto rfl ?_
            refine f_iadd rfl ?_
            refine f_istn [(2, fi (((ps.length : Int)) + 1)), (1, fi (((ns.length : Int)) + 0)), (5, fi (1)), (4, fi (0)), (3, fi (p)), (0, .ref 1)] rfl (by decide) hL3 rfl (fun L4 hL4 => ?_)
            refine f_il 3 rfl hL4 rfl ?_
            refine f_if rfl (by decide) (fun c_9 => absurd (show ¬ (0 : Int) = (0 : Int) from c_9) (by decide)) (fun _ => ?_)
            refine f_il 2 rfl hL4 rfl ?_
            refine f_if rfl (by decide) (fun c_9 => absurd (show (1 : Int) = (0 : Int) from c_9) (by decide)) (fun _ => ?_)
            refine f_iln 1 rfl hL4 rfl ?_
            refine f_s [fi (4), fi (((ns.length : Int)) + 0)] rfl rfl ?_
            refine f_ic rfl (by omega) (by omega) (fun c_9 => absurd (show (4 : Int) < (((ns.length : Int)) + 0 : Int) from c_9) (by omega)) (fun _ => ?_)
            refine f_iln 0 rfl hL4 rfl ?_
            refine f_s [fi (5), fi (((ps.length : Int)) + 1)] rfl rfl ?_
            refine f_ic rfl (by omega) (by omega) (fun c_9 => absurd (show (((ps.length : Int)) + 1 : Int) ≤ (5 : Int) from c_9) (by omega)) (fun _ => ?_)
            refine f_iln 4 rfl hL4 rfl ?_
            exact f_ret1 rfl ⟨by rw [pr_s, if_neg (by omega), if_neg (show ¬ tx m p = 78 by omega), if_pos hP, if_pos (by omega)], hw2, hm2⟩
          · have rF := pF_r hT (p := p) (by omega) (by omega)
            by_cases hF : pF (m 1 1) (tx m) p = -9
            · skip
              refine f_aln 3 rfl hL rfl ?_
              refine f_iln 0 rfl hL rfl ?_
              refine m_k1 (t20 hT (by omega)) hw hm rfl rfl rfl (m_ar so1 hw rfl) rfl (fun hc1 hw1 hm1 => ?_)
              refine f_bipush (n := 78) rfl (by decide) ?_
              refine f_ic rfl (by omega) (by omega) (fun _ => ?_) (fun c_9 => absurd (show ¬ (tx m p : Int) = (78 : Int) from (show ¬ tx m p = 78 by omega)) c_9)
              refine f_s [fi (0)] rfl rfl ?_
              refine f_ist [(4, fi (0)), (3, fi (p)), (2, fi ((ps.length : Int))), (1, fi ((ns.length : Int))), (0, .ref 1)] rfl (by decide) hL rfl (fun L1 hL1 => ?_)
              refine f_aln 4 rfl hL1 rfl ?_
              refine f_iln 1 rfl hL1 rfl ?_
              refine m_k1 (t20 hT (by omega)) hw1 hm1 rfl rfl rfl (m_ar so1 hw1 rfl) rfl (fun hc2 hw2 hm2 => ?_)
              refine f_bipush (n := 80) rfl (by decide) ?_
              refine f_ic rfl (by omega) (by omega) (fun c_9 => absurd (show ¬ (tx m p : Int) = (80 : Int) from c_9) (fun z => z hP)) (fun _ => ?_)
              refine f_s [fi (1)] rfl rfl ?_
              refine f_goto rfl ?_
              refine f_ist [(5, fi (1)), (4, fi (0)), (3, fi (p)), (2, fi ((ps.length : Int))), (1, fi ((ns.length : Int))), (0, .ref 1)] rfl (by decide) hL1 rfl (fun L2 hL2 => ?_)
              refine f_iln 4 rfl hL2 rfl ?_
              refine f_il 1 rfl hL2 rfl ?_
              refine f_if rfl (by decide) (fun _ => ?_) (fun c_9 => absurd (show (0 : Int) = (0 : Int) from (by decide)) c_9)
              refine f_s [fi (0), fi ((ns.length : Int))] rfl rfl ?_
              refine f_iadd rfl ?_
              refine f_istn [(1, fi (((ns.length : Int)) + 0)), (5, fi (1)), (4, fi (0)), (3, fi (p)), (2, fi ((ps.length : Int))), (0, .ref 1)] rfl (by decide) hL2 rfl (fun L3 hL3 => ?_)
              refine f_iln 4 rfl hL3 rfl ?_
              refine f_il 1 rfl hL3 rfl ?_
              refine f_if rfl (by decide) (fun c_9 => absurd (show (1 : Int) = (0 : Int) from c_9) (by decide)) (fun _ => ?_)
              refine f_s [fi (1), fi ((ps.length : Int))] rfl rfl ?_
              refine f_goto rfl ?_
              refine f_iadd rfl ?_
              refine f_istn [(2, fi (((ps.length : Int)) + 1)), (1, fi (((ns.length : Int)) + 0)), (5, fi (1)), (4, fi (0)), (3, fi (p)), (0, .ref 1)] rfl (by decide) hL3 rfl (fun L4 hL4 => ?_)
              refine f_il 3 rfl hL4 rfl ?_
              refine f_if rfl (by decide) (fun c_9 => absurd (show ¬ (0 : Int) = (0 : Int) from c_9) (by decide)) (fun _ => ?_)
              refine f_il 2 rfl hL4 rfl ?_
              refine f_if rfl (by decide) (fun c_9 => absurd (show (1 : Int) = (0 : Int) from c_9) (by decide)) (fun _ => ?_)
              refine f_iln 1 rfl hL4 rfl ?_
              refine f_s [fi (4), fi (((ns.length : Int)) + 0)] rfl rfl ?_
              refine f_ic rfl (by omega) (by omega) (fun c_9 => absurd (show (4 : Int) < (((ns.length : Int)) + 0 : Int) from c_9) (by omega)) (fun _ => ?_)
              refine f_iln 0 rfl hL4 rfl ?_
              refine f_s [fi (5), fi (((ps.length : Int)) + 1)] rfl rfl ?_
              refine f_ic rfl (by omega) (by omega) (fun _ => ?_) (fun c_9 => absurd (show (((ps.length : Int)) + 1 : Int) ≤ (5 : Int) from (by omega)) c_9)
              refine f_il 3 rfl hL4 rfl ?_
              refine f_if rfl (by decide) (fun _ => ?_) (fun c_9 => absurd (show (0 : Int) = (0 : Int) from (by decide)) c_9)
              refine f_aln 5 rfl hL4 rfl ?_
              refine f_iln 4 rfl hL4 rfl ?_
              refine m_k1 (t23 hT (by omega) (by omega)) hw2 hm2 rfl rfl rfl (m_ar so1 hw2 rfl) rfl (fun hc3 hw3 hm3 => ?_)
              refine f_ist [(6, fi (pF (m 1 1) (tx m) p)), (2, fi (((ps.length : Int)) + 1)), (1, fi (((ns.length : Int)) + 0)), (5, fi (1)), (4, fi (0)), (3, fi (p)), (0, .ref 1)] rfl (by decide) hL4 rfl (fun L5 hL5 => ?_)
              refine f_il 0 rfl hL5 rfl ?_
              refine f_bipush (n := -9) rfl (by decide) ?_
              refine f_ic rfl (by omega) (by omega) (fun _ => ?_) (fun c_9 => absurd (show (pF (m 1 1) (tx m) p : Int) = (-9 : Int) from hF) c_9)
              refine f_iln 5 rfl hL5 rfl ?_
              refine f_aln 6 rfl hL5 rfl ?_
              refine f_iln 5 rfl hL5 rfl ?_
              refine m_k1 (t20 hT (by omega)) hw3 hm3 rfl rfl rfl (m_ar so1 hw3 rfl) rfl (fun hc4 hw4 hm4 => ?_)
              refine f_bipush (n := 78) rfl (by decide) ?_
              refine f_ic rfl (by omega) (by omega) (fun _ => ?_) (fun c_9 => absurd (show ¬ (tx m p : Int) = (78 : Int) from (show ¬ tx m p = 78 by omega)) c_9)
              refine f_s [fi (4), fi (p)] rfl rfl ?_
              refine f_iadd rfl ?_
              refine f_istn [(3, fi (p + 4)), (6, fi (pF (m 1 1) (tx m) p)), (2, fi (((ps.length : Int)) + 1)), (1, fi (((ns.length : Int)) + 0)), (5, fi (1)), (4, fi (0)), (0, .ref 1)] rfl (by decide) hL5 rfl (fun L6 hL6 => ?_)
              refine f_goto rfl ?_
              have e1 : ((ns).length : Int) = (ns.length : Int) + 0 := by omega
              have e2 : ((ps ++ [(tx m (p + 1) - 48, tx m (p + 2) - 48, tx m (p + 3) - 97)]).length : Int) = (ps.length : Int) + 1 := by rw [List.length_append]; rfl
              have := ih (p + 4) (ns) (ps ++ [(tx m (p + 1) - 48, tx m (p + 2) - 48, tx m (p + 3) - 97)]) hc4 _ hw4 hm4 (by omega) (by omega) (by omega) (by omega) (by omega) (by rw [e1, e2]; exact hL6.sel [0, 2, 3, 6] rfl)
              rw [pr_s, if_neg (by omega), if_neg (show ¬ tx m p = 78 by omega), if_pos hP, if_neg (by omega), if_pos hF]
              exact this
            · skip
              refine f_aln 3 rfl hL rfl ?_
              refine f_iln 0 rfl hL rfl ?_
              refine m_k1 (t20 hT (by omega)) hw hm rfl rfl rfl (m_ar so1 hw rfl) rfl (fun hc1 hw1 hm1 => ?_)
              refine f_bipush (n := 78) rfl (by decide) ?_
              refine f_ic rfl (by omega) (by omega) (fun _ => ?_) (fun c_9 => absurd (show ¬ (tx m p : Int) = (78 : Int) from (show ¬ tx m p = 78 by omega)) c_9)
              refine f_s [fi (0)] rfl rfl ?_
              refine f_ist [(4, fi (0)), (3, fi (p)), (2, fi ((ps.length : Int))), (1, fi ((ns.length : Int))), (0, .ref 1)] rfl (by decide) hL rfl (fun L1 hL1 => ?_)
              refine f_aln 4 rfl hL1 rfl ?_
              refine f_iln 1 rfl hL1 rfl ?_
              refine m_k1 (t20 hT (by omega)) hw1 hm1 rfl rfl rfl (m_ar so1 hw1 rfl) rfl (fun hc2 hw2 hm2 => ?_)
              refine f_bipush (n := 80) rfl (by decide) ?_
              refine f_ic rfl (by omega) (by omega) (fun c_9 => absurd (show ¬ (tx m p : Int) = (80 : Int) from c_9) (fun z => z hP)) (fun _ => ?_)
              refine f_s [fi (1)] rfl rfl ?_
              refine f_goto rfl ?_
              refine f_ist [(5, fi (1)), (4, fi (0)), (3, fi (p)), (2, fi ((ps.length : Int))), (1, fi ((ns.length : Int))), (0, .ref 1)] rfl (by decide) hL1 rfl (fun L2 hL2 => ?_)
              refine f_iln 4 rfl hL2 rfl ?_
              refine f_il 1 rfl hL2 rfl ?_
              refine f_if rfl (by decide) (fun _ => ?_) (fun c_9 => absurd (show (0 : Int) = (0 : Int) from (by decide)) c_9)
              refine f_s [fi (0), fi ((ns.length : Int))] rfl rfl ?_
              refine f_iadd rfl ?_
              refine f_istn [(1, fi (((ns.length : Int)) + 0)), (5, fi (1)), (4, fi (0)), (3, fi (p)), (2, fi ((ps.length : Int))), (0, .ref 1)] rfl (by decide) hL2 rfl (fun L3 hL3 => ?_)
              refine f_iln 4 rfl hL3 rfl ?_
              refine f_il 1 rfl hL3 rfl ?_
              refine f_if rfl (by decide) (fun c_9 => absurd (show (1 : Int) = (0 : Int) from c_9) (by decide)) (fun _ => ?_)
              refine f_s [fi (1), fi ((ps.length : Int))] rfl rfl ?_
              refine f_goto rfl ?_
              refine f_iadd rfl ?_
              refine f_istn [(2, fi (((ps.length : Int)) + 1)), (1, fi (((ns.length : Int)) + 0)), (5, fi (1)), (4, fi (0)), (3, fi (p)), (0, .ref 1)] rfl (by decide) hL3 rfl (fun L4 hL4 => ?_)
              refine f_il 3 rfl hL4 rfl ?_
              refine f_if rfl (by decide) (fun c_9 => absurd (show ¬ (0 : Int) = (0 : Int) from c_9) (by decide)) (fun _ => ?_)
              refine f_il 2 rfl hL4 rfl ?_
              refine f_if rfl (by decide) (fun c_9 => absurd (show (1 : Int) = (0 : Int) from c_9) (by decide)) (fun _ => ?_)
              refine f_iln 1 rfl hL4 rfl ?_
              refine f_s [fi (4), fi (((ns.length : Int)) + 0)] rfl rfl ?_
              refine f_ic rfl (by omega) (by omega) (fun c_9 => absurd (show (4 : Int) < (((ns.length : Int)) + 0 : Int) from c_9) (by omega)) (fun _ => ?_)
              refine f_iln 0 rfl hL4 rfl ?_
              refine f_s [fi (5), fi (((ps.length : Int)) + 1)] rfl rfl ?_
              refine f_ic rfl (by omega) (by omega) (fun _ => ?_) (fun c_9 => absurd (show (((ps.length : Int)) + 1 : Int) ≤ (5 : Int) from (by omega)) c_9)
              refine f_il 3 rfl hL4 rfl ?_
              refine f_if rfl (by decide) (fun _ => ?_) (fun c_9 => absurd (show (0 : Int) = (0 : Int) from (by decide)) c_9)
              refine f_aln 5 rfl hL4 rfl ?_
              refine f_iln 4 rfl hL4 rfl ?_
              refine m_k1 (t23 hT (by omega) (by omega)) hw2 hm2 rfl rfl rfl (m_ar so1 hw2 rfl) rfl (fun hc3 hw3 hm3 => ?_)
              refine f_ist [(6, fi (pF (m 1 1) (tx m) p)), (2, fi (((ps.length : Int)) + 1)), (1, fi (((ns.length : Int)) + 0)), (5, fi (1)), (4, fi (0)), (3, fi (p)), (0, .ref 1)] rfl (by decide) hL4 rfl (fun L5 hL5 => ?_)
              refine f_il 0 rfl hL5 rfl ?_
              refine f_bipush (n := -9) rfl (by decide) ?_
              refine f_ic rfl (by omega) (by omega) (fun c_9 => absurd (show (pF (m 1 1) (tx m) p : Int) = (-9 : Int) from c_9) hF) (fun _ => ?_)
              refine f_il 0 rfl hL5 rfl ?_
              exact f_ret1 rfl ⟨by rw [pr_s, if_neg (by omega), if_neg (show ¬ tx m p = 78 by omega), if_pos hP, if_neg (by omega), if_neg hF], hw3, hm3⟩
        · skip
          refine f_aln 3 rfl hL rfl ?_
          refine f_iln 0 rfl hL rfl ?_
          refine m_k1 (t20 hT (by omega)) hw hm rfl rfl rfl (m_ar so1 hw rfl) rfl (fun hc1 hw1 hm1 => ?_)
          refine f_bipush (n := 78) rfl (by decide) ?_
          refine f_ic rfl (by omega) (by omega) (fun _ => ?_) (fun c_9 => absurd (show ¬ (tx m p : Int) = (78 : Int) from hN) c_9)
          refine f_s [fi (0)] rfl rfl ?_
          refine f_ist [(4, fi (0)), (3, fi (p)), (2, fi ((ps.length : Int))), (1, fi ((ns.length : Int))), (0, .ref 1)] rfl (by decide) hL rfl (fun L1 hL1 => ?_)
          refine f_aln 4 rfl hL1 rfl ?_
          refine f_iln 1 rfl hL1 rfl ?_
          refine m_k1 (t20 hT (by omega)) hw1 hm1 rfl rfl rfl (m_ar so1 hw1 rfl) rfl (fun hc2 hw2 hm2 => ?_)
          refine f_bipush (n := 80) rfl (by decide) ?_
          refine f_ic rfl (by omega) (by omega) (fun _ => ?_) (fun c_9 => absurd (show ¬ (tx m p : Int) = (80 : Int) from hP) c_9)
          refine f_s [fi (0)] rfl rfl ?_
          refine f_ist [(5, fi (0)), (4, fi (0)), (3, fi (p)), (2, fi ((ps.length : Int))), (1, fi ((ns.length : Int))), (0, .ref 1)] rfl (by decide) hL1 rfl (fun L2 hL2 => ?_)
          refine f_iln 4 rfl hL2 rfl ?_
          refine f_il 1 rfl hL2 rfl ?_
          refine f_if rfl (by decide) (fun _ => ?_) (fun c_9 => absurd (show (0 : Int) = (0 : Int) from (by decide)) c_9)
          refine f_s [fi (0), fi ((ns.length : Int))] rfl rfl ?_
          refine f_iadd rfl ?_
          refine f_istn [(1, fi (((ns.length : Int)) + 0)), (5, fi (0)), (4, fi (0)), (3, fi (p)), (2, fi ((ps.length : Int))), (0, .ref 1)] rfl (by decide) hL2 rfl (fun L3 hL3 => ?_)
          refine f_iln 4 rfl hL3 rfl ?_
          refine f_il 1 rfl hL3 rfl ?_
          refine f_if rfl (by decide) (fun _ => ?_) (fun c_9 => absurd (show (0 : Int) = (0 : Int) from (by decide)) c_9)
          refine f_s [fi (0), fi ((ps.length : Int))] rfl rfl ?_
          refine f_iadd rfl ?_
          refine f_istn [(2, fi (((ps.length : Int)) + 0)), (1, fi (((ns.length : Int)) + 0)), (5, fi (0)), (4, fi (0)), (3, fi (p)), (0, .ref 1)] rfl (by decide) hL3 rfl (fun L4 hL4 => ?_)
          refine f_il 3 rfl hL4 rfl ?_
          refine f_if rfl (by decide) (fun c_9 => absurd (show ¬ (0 : Int) = (0 : Int) from c_9) (by decide)) (fun _ => ?_)
          refine f_il 2 rfl hL4 rfl ?_
          refine f_if rfl (by decide) (fun _ => ?_) (fun c_9 => absurd (show (0 : Int) = (0 : Int) from (by decide)) c_9)
          refine f_iln 4 rfl hL4 rfl ?_
          exact f_ret1 rfl ⟨by rw [pr_s, if_neg (by omega), if_neg hN, if_neg hP], hw2, hm2⟩
noncomputable def tF (m : Nat → Nat → Int) : Int := if tx m 0 = 72 then (pr (m 1 1) (tx m) 40 1 [] []).1 else 0
theorem t24 {m : Nat → Nat → Int} (hT : tw m) : h_M 24 [.ref 1] m (some (fi (if tx m 0 = 72 then (pr (m 1 1) (tx m) 40 1 [] []).1 else 0))) m := h_M_of (R := ev_r24) rfl (fun hc hw hm => by
  have hL : f_L (lv_args 0 [.ref 1]) [(0, .ref 1)] := f_L_of rfl
  generalize lv_args 0 [.ref 1] = L at hL
  show x_W none (1, 0, 7, 0, 9, 3, 65, 0, 0, ev_t24) 0 L [] hc 0 0 _
  have hl := hT.1
  have ht := tx_r hT 0
  refine f_aln 0 rfl hL rfl ?_
  refine f_s [fi (0), .ref 1] rfl rfl ?_
  refine m_k1 (t20 hT (by decide)) hw hm rfl rfl rfl (m_ar so1 hw rfl) rfl (fun hc1 hw1 hm1 => ?_)
  refine f_bipush (n := 72) rfl (by decide) ?_
  refine f_ic rfl (by omega) (by omega) (fun c1 => ?_) (fun c1 => ?_)
  · have c1 : (tx m 0 : Int) = (72 : Int) := c1
    refine f_s [fi (0)] rfl rfl ?_
    refine f_istn [(1, fi (0)), (0, .ref 1)] rfl (by decide) hL rfl (fun L1 hL1 => ?_)
    refine f_s [fi (0)] rfl rfl ?_
    refine f_istn [(2, fi (0)), (1, fi (0)), (0, .ref 1)] rfl (by decide) hL1 rfl (fun L2 hL2 => ?_)
    refine f_s [fi (1)] rfl rfl ?_
    refine f_istn [(3, fi (1)), (2, fi (0)), (1, fi (0)), (0, .ref 1)] rfl (by decide) hL2 rfl (fun L3 hL3 => ?_)
    rw [if_pos c1]
    exact t24_loop hT 40 1 [] [] hc1 _ hw1 hm1 (by decide) (by decide) (by omega) (by decide) (by decide) (hL3.sel [0, 1, 2, 3] rfl)
  · have c1 : ¬ ((tx m 0 : Int) = (72 : Int)) := c1
    refine f_s [fi (0)] rfl rfl ?_
    exact f_ret1 rfl ⟨by rw [if_neg c1], hw1, hm1⟩)
theorem t25 {m : Nat → Nat → Int} (hT : tw m) : h_M 25 [.ref 0] m (some (fi (tF m))) m := h_M_of (R := ev_r25) rfl (fun hc hw hm => by
  have hL : f_L (lv_args 0 [.ref 0]) [(0, .ref 0)] := f_L_of rfl
  generalize lv_args 0 [.ref 0] = L at hL
  show x_W none (1, 0, 1, 0, 10, 4, 91, 0, 0, ev_t25) 0 L [] hc 0 0 _
  refine f_aln 0 rfl hL rfl ?_
  refine m_gfr so0 rfl hw rfl (by decide) ?_
  refine m_k1 (t24 hT) hw hm rfl rfl rfl (m_ar so1 hw rfl) rfl (fun hc1 hw1 hm1 => ?_)
  exact f_ret1 rfl ⟨rfl, hw1, hm1⟩)
/-! how the reference reads its text -/
theorem hM15 {m : Nat → Nat → Int} (x y z : Int) (hx : -9223372036854775808 ≤ x ∧ x ≤ 9223372036854775807) (hy : -9223372036854775808 ≤ y ∧ y ≤ 9223372036854775807) (hz : -9223372036854775808 ≤ z ∧ z ≤ 9223372036854775807) : h_M 15 [fl x, fl y, fl z] m (some (fi (if y ≤ x ∧ x ≤ z then 1 else 0))) m := fun hc hw hm => ⟨hc, f15 hc x y z hx hy hz, hw, hm⟩
/-- what stands in the rows of names and people that were read -/
def pOK (m : Nat → Nat → Int) (ns : pNs) (ps : pPs) : Prop := m 55 10 = (ns.length : Int) ∧ m 55 11 = (ps.length : Int) ∧ (∀ (k : Nat) (e : Int × Int), ns[k]? = some e → m 62 (2 * k) = e.1 ∧ m 62 (2 * k + 1) = e.2) ∧ (∀ (k : Nat) (e : Int × Int × Int), ps[k]? = some e → m 63 (3 * k) = e.1 ∧ m 63 (3 * k + 1) = e.2.1 ∧ m 63 (3 * k + 2) = e.2.2)
theorem pOK_n {m m' : Nat → Nat → Int} {ns : pNs} {ps : pPs} {v1 v2 : Int} (h : pOK m ns ps) (h10 : m' 55 10 = (ns.length : Int) + 1) (h11 : m' 55 11 = m 55 11) (h63 : ∀ i, m' 63 i = m 63 i) (h62 : ∀ i, m' 62 i = if i = 2 * ns.length + 1 then v2 else if i = 2 * ns.length then v1 else m 62 i) : pOK m' (ns ++ [(v1, v2)]) ps := by
  obtain ⟨a1, a2, a3, a4⟩ := h
  refine ⟨by rw [h10, List.length_append]; rfl, by rw [h11]; exact a2, fun k e hk => ?_, fun k e hk => by rw [h63, h63, h63]; exact a4 k e hk⟩
  rw [List.getElem?_append] at hk
  split at hk
  · rename_i hl
    rw [h62, h62, if_neg (by omega), if_neg (by omega), if_neg (by omega), if_neg (by omega)]
    exact a3 k e hk
  · rename_i hl
    have hz := (List.getElem?_eq_some_iff.mp hk).1
    simp only [List.length_singleton] at hz
    have e0 : k = ns.length := by omega
    subst e0
    rw [Nat.sub_self] at hk
    cases hk
    rw [h62, h62, if_neg (by omega), if_pos rfl, if_pos rfl]
    exact ⟨rfl, rfl⟩
theorem pOK_p {m m' : Nat → Nat → Int} {ns : pNs} {ps : pPs} {v1 v2 v3 : Int} (h : pOK m ns ps) (h10 : m' 55 10 = m 55 10) (h11 : m' 55 11 = (ps.length : Int) + 1) (h62 : ∀ i, m' 62 i = m 62 i) (h63 : ∀ i, m' 63 i = if i = 3 * ps.length + 2 then v3 else if i = 3 * ps.length + 1 then v2 else if i = 3 * ps.length then v1 else m 63 i) : pOK m' ns (ps ++ [(v1, v2, v3)]) := by
  obtain ⟨a1, a2, a3, a4⟩ := h
  refine ⟨by rw [h10]; exact a1, by rw [h11, List.length_append]; rfl, fun k e hk => by rw [h62, h62]; exact a3 k e hk, fun k e hk => ?_⟩
  rw [List.getElem?_append] at hk
  split at hk
  · rename_i hl
    rw [h63, h63, h63, if_neg (by omega), if_neg (by omega), if_neg (by omega), if_neg (by omega), if_neg (by omega), if_neg (by omega), if_neg (by omega), if_neg (by omega), if_neg (by omega)]
    exact a4 k e hk
  · rename_i hl
    have hz := (List.getElem?_eq_some_iff.mp hk).1
    simp only [List.length_singleton] at hz
    have e0 : k = ps.length := by omega
    subst e0
    rw [Nat.sub_self] at hk
    cases hk
    rw [h63, h63, h63, if_neg (by omega), if_neg (by omega), if_pos rfl, if_neg (by omega), if_pos rfl, if_pos rfl]
    exact ⟨rfl, rfl, rfl⟩
/-- the reference's text is t, of length ln -/
def tM (m : Nat → Nat → Int) (ln : Int) (t : Int → Int) : Prop := m 55 13 = ln ∧ (0 ≤ ln ∧ ln ≤ 40) ∧ (∀ i : Int, 0 ≤ i → i < ln → m 64 i.toNat = t i) ∧ (∀ i : Int, 0 ≤ t i ∧ t i ≤ 65535) ∧ (ln ≤ 0 → t 0 = 0)
theorem t26_ok {ln : Int} {m : Nat → Nat → Int} {p a b f : Int} (h14 : m 55 14 = p) (p1 : 0 ≤ p) (p2 : p ≤ 100) (h13 : m 55 13 = ln) (ln1 : 0 ≤ ln) (ln2 : ln ≤ 40) (ra : 48 ≤ a ∧ a ≤ 65535) (rb : 0 ≤ b ∧ b ≤ 65535) (rf : 0 ≤ f ∧ f ≤ 65535) (h15 : m 55 15 = -9) (hp : p < ln) {v : Int} (hv : m 64 (p).toNat = v) (v1 : a ≤ v) (v2 : v ≤ b) : h_M 26 [.ref 55, fi (a), fi (b), fi (f)] m (some (fi (v - f))) (up m 55 14 (p + 1)) := h_M_of (R := ev_r26) rfl (fun hc hw hm => by
  have hL : f_L (lv_args 0 [.ref 55, fi (a), fi (b), fi (f)]) [(0, .ref 55), (1, fi (a)), (2, fi (b)), (3, fi (f))] := f_L_of rfl
  generalize lv_args 0 [.ref 55, fi (a), fi (b), fi (f)] = L at hL
  show x_W none (1, 0, 5, 3, 11, 1, 25, 0, 0, ev_t26) 0 L [] hc 0 0 _
  refine f_aln 0 rfl hL rfl ?_
  refine m_gfi so55 (-9) rfl hw hm rfl h15 ?_
  refine f_bipush (n := -9) rfl (by decide) ?_
  refine f_ic rfl (by decide) (by decide) (fun c_9 => absurd (show ¬ (-9 : Int) = (-9 : Int) from c_9) (by decide)) (fun _ => ?_)
  refine f_aln 0 rfl hL rfl ?_
  refine m_gfi so55 (p) rfl hw hm rfl h14 ?_
  refine f_aln 0 rfl hL rfl ?_
  refine m_gfi so55 (ln) rfl hw hm rfl h13 ?_
  refine f_ic rfl (by omega) (by omega) (fun c_9 => absurd (show (ln : Int) ≤ (p : Int) from c_9) (by omega)) (fun _ => ?_)
  refine f_aln 0 rfl hL rfl ?_
  refine m_gfr so55 rfl hw rfl (by decide) ?_
  refine f_aln 0 rfl hL rfl ?_
  refine m_gfi so55 (p) rfl hw hm rfl h14 ?_
  refine m_ia sa64 (v) rfl hw hm (by omega) (by omega) (by decide) hv ?_
  refine f_goto rfl ?_
  refine f_ist [(4, fi (v)), (0, .ref 55), (1, fi (a)), (2, fi (b)), (3, fi (f))] rfl (by decide) hL rfl (fun L1 hL1 => ?_)
  refine f_il 0 rfl hL1 rfl ?_
  refine f_i2l rfl (by omega) ?_
  refine f_iln 2 rfl hL1 rfl ?_
  refine f_i2l rfl (by omega) ?_
  refine f_iln 3 rfl hL1 rfl ?_
  refine f_i2l rfl (by omega) ?_
  refine m_k1 (hM15 (v) a b (by omega) (by omega) (by omega)) hw hm rfl rfl rfl rfl rfl (fun hc1 hw1 hm1 => ?_)
  refine f_if rfl (by split <;> omega) (fun _ => ?_) (fun c_9 => absurd (show ¬ (if a ≤ v ∧ v ≤ b then 1 else 0 : Int) = (0 : Int) from (by rw [if_pos ⟨v1, v2⟩]; decide)) c_9)
  refine f_aln 1 rfl hL1 rfl ?_
  refine f_s [.ref 55, .ref 55] rfl rfl ?_
  refine m_gfi so55 (p) rfl hw1 hm1 rfl h14 ?_
  refine f_s [fi (1), fi (p), .ref 55] rfl rfl ?_
  refine f_iadd rfl ?_
  refine m_pf so55 rfl hw1 hm1 rfl rfl (by omega) (fun hc2 hw2 hm2 => ?_)
  refine f_il 0 rfl hL1 rfl ?_
  refine f_iln 4 rfl hL1 rfl ?_
  refine f_isub rfl ?_
  exact f_ret1 rfl ⟨rfl, hw2, hm2⟩)
theorem t26_bad {ln : Int} {m : Nat → Nat → Int} {p a b f : Int} (h14 : m 55 14 = p) (p1 : 0 ≤ p) (p2 : p ≤ 100) (h13 : m 55 13 = ln) (ln1 : 0 ≤ ln) (ln2 : ln ≤ 40) (ra : 48 ≤ a ∧ a ≤ 65535) (rb : 0 ≤ b ∧ b ≤ 65535) (rf : 0 ≤ f ∧ f ≤ 65535) (h15 : m 55 15 = -9) (hp : p < ln) {v : Int} (hv : m 64 (p).toNat = v) (rv : 0 ≤ v ∧ v ≤ 65535) (hb : ¬ (a ≤ v ∧ v ≤ b)) : h_M 26 [.ref 55, fi (a), fi (b), fi (f)] m (some (fi (0))) (up m 55 15 p) := h_M_of (R := ev_r26) rfl (fun hc hw hm => by
  have hL : f_L (lv_args 0 [.ref 55, fi (a), fi (b), fi (f)]) [(0, .ref 55), (1, fi (a)), (2, fi (b)), (3, fi (f))] := f_L_of rfl
  generalize lv_args 0 [.ref 55, fi (a), fi (b), fi (f)] = L at hL
  show x_W none (1, 0, 5, 3, 11, 1, 25, 0, 0, ev_t26) 0 L [] hc 0 0 _
  refine f_aln 0 rfl hL rfl ?_
  refine m_gfi so55 (-9) rfl hw hm rfl h15 ?_
  refine f_bipush (n := -9) rfl (by decide) ?_
  refine f_ic rfl (by decide) (by decide) (fun c_9 => absurd (show ¬ (-9 : Int) = (-9 : Int) from c_9) (by decide)) (fun _ => ?_)
  refine f_aln 0 rfl hL rfl ?_
  refine m_gfi so55 (p) rfl hw hm rfl h14 ?_
  refine f_aln 0 rfl hL rfl ?_
  refine m_gfi so55 (ln) rfl hw hm rfl h13 ?_
  refine f_ic rfl (by omega) (by omega) (fun c_9 => absurd (show (ln : Int) ≤ (p : Int) from c_9) (by omega)) (fun _ => ?_)
  refine f_aln 0 rfl hL rfl ?_
  refine m_gfr so55 rfl hw rfl (by decide) ?_
  refine f_aln 0 rfl hL rfl ?_
  refine m_gfi so55 (p) rfl hw hm rfl h14 ?_
  refine m_ia sa64 (v) rfl hw hm (by omega) (by omega) (by decide) hv ?_
  refine f_goto rfl ?_
  refine f_ist [(4, fi (v)), (0, .ref 55), (1, fi (a)), (2, fi (b)), (3, fi (f))] rfl (by decide) hL rfl (fun L1 hL1 => ?_)
  refine f_il 0 rfl hL1 rfl ?_
  refine f_i2l rfl (by omega) ?_
  refine f_iln 2 rfl hL1 rfl ?_
  refine f_i2l rfl (by omega) ?_
  refine f_iln 3 rfl hL1 rfl ?_
  refine f_i2l rfl (by omega) ?_
  refine m_k1 (hM15 (v) a b (by omega) (by omega) (by omega)) hw hm rfl rfl rfl rfl rfl (fun hc1 hw1 hm1 => ?_)
  refine f_if rfl (by split <;> omega) (fun c_9 => absurd (show ¬ (if a ≤ v ∧ v ≤ b then 1 else 0 : Int) = (0 : Int) from c_9) (by rw [if_neg hb]; exact fun z => z rfl)) (fun _ => ?_)
  refine f_aln 1 rfl hL1 rfl ?_
  refine f_aln 1 rfl hL1 rfl ?_
  refine m_gfi so55 (-9) rfl hw1 hm1 rfl h15 ?_
  refine f_bipush (n := -9) rfl (by decide) ?_
  refine f_ic rfl (by decide) (by decide) (fun c_9 => absurd (show ¬ (-9 : Int) = (-9 : Int) from c_9) (by decide)) (fun _ => ?_)
  refine f_aln 1 rfl hL1 rfl ?_
  refine m_gfi so55 (p) rfl hw1 hm1 rfl h14 ?_
  refine f_goto rfl ?_
  refine m_pf so55 rfl hw1 hm1 rfl rfl (by omega) (fun hc2 hw2 hm2 => ?_)
  refine f_s [fi (0)] rfl rfl ?_
  exact f_ret1 rfl ⟨rfl, hw2, hm2⟩)
theorem t26_end {ln : Int} {m : Nat → Nat → Int} {p a b f : Int} (h14 : m 55 14 = p) (p1 : 0 ≤ p) (p2 : p ≤ 100) (h13 : m 55 13 = ln) (ln1 : 0 ≤ ln) (ln2 : ln ≤ 40) (ra : 48 ≤ a ∧ a ≤ 65535) (rb : 0 ≤ b ∧ b ≤ 65535) (rf : 0 ≤ f ∧ f ≤ 65535) (h15 : m 55 15 = -9) (hp : ln ≤ p) : h_M 26 [.ref 55, fi (a), fi (b), fi (f)] m (some (fi (0))) (up m 55 15 p) := h_M_of (R := ev_r26) rfl (fun hc hw hm => by
  have hL : f_L (lv_args 0 [.ref 55, fi (a), fi (b), fi (f)]) [(0, .ref 55), (1, fi (a)), (2, fi (b)), (3, fi (f))] := f_L_of rfl
  generalize lv_args 0 [.ref 55, fi (a), fi (b), fi (f)] = L at hL
  show x_W none (1, 0, 5, 3, 11, 1, 25, 0, 0, ev_t26) 0 L [] hc 0 0 _
  refine f_aln 0 rfl hL rfl ?_
  refine m_gfi so55 (-9) rfl hw hm rfl h15 ?_
  refine f_bipush (n := -9) rfl (by decide) ?_
  refine f_ic rfl (by decide) (by decide) (fun c_9 => absurd (show ¬ (-9 : Int) = (-9 : Int) from c_9) (by decide)) (fun _ => ?_)
  refine f_aln 0 rfl hL rfl ?_
  refine m_gfi so55 (p) rfl hw hm rfl h14 ?_
  refine f_aln 0 rfl hL rfl ?_
  refine m_gfi so55 (ln) rfl hw hm rfl h13 ?_
  refine f_ic rfl (by omega) (by omega) (fun _ => ?_) (fun c_9 => absurd (show (ln : Int) ≤ (p : Int) from (by omega)) c_9)
  refine f_bipush (n := -9) rfl (by decide) ?_
  refine f_ist [(4, fi (-9)), (0, .ref 55), (1, fi (a)), (2, fi (b)), (3, fi (f))] rfl (by decide) hL rfl (fun L1 hL1 => ?_)
  refine f_il 0 rfl hL1 rfl ?_
  refine f_i2l rfl (by omega) ?_
  refine f_iln 2 rfl hL1 rfl ?_
  refine f_i2l rfl (by omega) ?_
  refine f_iln 3 rfl hL1 rfl ?_
  refine f_i2l rfl (by omega) ?_
  refine m_k1 (hM15 (-9) a b (by omega) (by omega) (by omega)) hw hm rfl rfl rfl rfl rfl (fun hc1 hw1 hm1 => ?_)
  refine f_if rfl (by split <;> omega) (fun c_9 => absurd (show ¬ (if a ≤ -9 ∧ -9 ≤ b then 1 else 0 : Int) = (0 : Int) from c_9) (by rw [if_neg (by omega)]; exact fun z => z rfl)) (fun _ => ?_)
  refine f_aln 1 rfl hL1 rfl ?_
  refine f_aln 1 rfl hL1 rfl ?_
  refine m_gfi so55 (-9) rfl hw1 hm1 rfl h15 ?_
  refine f_bipush (n := -9) rfl (by decide) ?_
  refine f_ic rfl (by decide) (by decide) (fun c_9 => absurd (show ¬ (-9 : Int) = (-9 : Int) from c_9) (by decide)) (fun _ => ?_)
  refine f_aln 1 rfl hL1 rfl ?_
  refine m_gfi so55 (p) rfl hw1 hm1 rfl h14 ?_
  refine f_goto rfl ?_
  refine m_pf so55 rfl hw1 hm1 rfl rfl (by omega) (fun hc2 hw2 hm2 => ?_)
  refine f_s [fi (0)] rfl rfl ?_
  exact f_ret1 rfl ⟨rfl, hw2, hm2⟩)
theorem t26_skip {ln : Int} {m : Nat → Nat → Int} {p a b f : Int} (h14 : m 55 14 = p) (p1 : 0 ≤ p) (p2 : p ≤ 100) (h13 : m 55 13 = ln) (ln1 : 0 ≤ ln) (ln2 : ln ≤ 40) (ra : 48 ≤ a ∧ a ≤ 65535) (rb : 0 ≤ b ∧ b ≤ 65535) (rf : 0 ≤ f ∧ f ≤ 65535) {g : Int} (h15 : m 55 15 = g) (hg : ¬ g = -9) (rg : 0 ≤ g ∧ g ≤ 100) : h_M 26 [.ref 55, fi (a), fi (b), fi (f)] m (some (fi (0))) (up m 55 15 g) := h_M_of (R := ev_r26) rfl (fun hc hw hm => by
  have hL : f_L (lv_args 0 [.ref 55, fi (a), fi (b), fi (f)]) [(0, .ref 55), (1, fi (a)), (2, fi (b)), (3, fi (f))] := f_L_of rfl
  generalize lv_args 0 [.ref 55, fi (a), fi (b), fi (f)] = L at hL
  show x_W none (1, 0, 5, 3, 11, 1, 25, 0, 0, ev_t26) 0 L [] hc 0 0 _
  refine f_aln 0 rfl hL rfl ?_
  refine m_gfi so55 (g) rfl hw hm rfl h15 ?_
  refine f_bipush (n := -9) rfl (by decide) ?_
  refine f_ic rfl (by omega) (by omega) (fun _ => ?_) (fun c_9 => absurd (show ¬ (g : Int) = (-9 : Int) from hg) c_9)
  refine f_bipush (n := -9) rfl (by decide) ?_
  refine f_ist [(4, fi (-9)), (0, .ref 55), (1, fi (a)), (2, fi (b)), (3, fi (f))] rfl (by decide) hL rfl (fun L1 hL1 => ?_)
  refine f_il 0 rfl hL1 rfl ?_
  refine f_i2l rfl (by omega) ?_
  refine f_iln 2 rfl hL1 rfl ?_
  refine f_i2l rfl (by omega) ?_
  refine f_iln 3 rfl hL1 rfl ?_
  refine f_i2l rfl (by omega) ?_
  refine m_k1 (hM15 (-9) a b (by omega) (by omega) (by omega)) hw hm rfl rfl rfl rfl rfl (fun hc1 hw1 hm1 => ?_)
  refine f_if rfl (by split <;> omega) (fun c_9 => absurd (show ¬ (if a ≤ -9 ∧ -9 ≤ b then 1 else 0 : Int) = (0 : Int) from c_9) (by rw [if_neg (by omega)]; exact fun z => z rfl)) (fun _ => ?_)
  refine f_aln 1 rfl hL1 rfl ?_
  refine f_aln 1 rfl hL1 rfl ?_
  refine m_gfi so55 (g) rfl hw1 hm1 rfl h15 ?_
  refine f_bipush (n := -9) rfl (by decide) ?_
  refine f_ic rfl (by omega) (by omega) (fun _ => ?_) (fun c_9 => absurd (show ¬ (g : Int) = (-9 : Int) from hg) c_9)
  refine f_aln 1 rfl hL1 rfl ?_
  refine m_gfi so55 (g) rfl hw1 hm1 rfl h15 ?_
  refine m_pf so55 rfl hw1 hm1 rfl rfl (by omega) (fun hc2 hw2 hm2 => ?_)
  refine f_s [fi (0)] rfl rfl ?_
  exact f_ret1 rfl ⟨rfl, hw2, hm2⟩)
set_option maxHeartbeats 8000000 in
theorem t27_loop {ln : Int} {t : Int → Int} : ∀ (n : Nat) (p : Int) (ns : pNs) (ps : pPs) (m : Nat → Nat → Int) (hc : ev_H) (L : ev_L), y_in yGw hc → gi hc = m → m 55 14 = p → m 55 15 = -9 → tM m ln t → pOK m ns ps → 1 ≤ p → p ≤ 44 → (ln - p).toNat ≤ n → ns.length ≤ 4 → ps.length ≤ 5 → f_L L [(0, .ref 55)] → x_W none (1, 0, 2, 0, 11, 2, 49, 0, 0, ev_t27) 46 L [] hc 0 0 (fun r h' => y_in yGw h' ∧ r = some (fi (pr ln t n p ns ps).1) ∧ ((pr ln t n p ns ps).1 = -9 → pOK (gi h') (pr ln t n p ns ps).2.1 (pr ln t n p ns ps).2.2)) := by
  intro n
  induction n with
  | zero =>
    intro p ns ps m hc L hw hm h14 h15 hM hO p1 p2 hn l1 l2 hL
    have hl := hM.2.1
    refine f_aln 0 rfl hL rfl ?_
    refine m_gfi so55 (-9) rfl hw hm rfl h15 ?_
    refine f_bipush (n := -9) rfl (by decide) ?_
    refine f_ic rfl (by decide) (by decide) (fun c_9 => absurd (show ¬ (-9 : Int) = (-9 : Int) from c_9) (by decide)) (fun _ => ?_)
    refine f_aln 0 rfl hL rfl ?_
    refine m_gfi so55 (p) rfl hw hm rfl h14 ?_
    refine f_aln 0 rfl hL rfl ?_
    refine m_gfi so55 (ln) rfl hw hm rfl hM.1 ?_
    refine f_ic rfl (by omega) (by omega) (fun _ => ?_) (fun c_9 => absurd (show (ln : Int) ≤ (p : Int) from (by omega)) c_9)
    refine f_aln 0 rfl hL rfl ?_
    refine m_gfi so55 (-9) rfl hw hm rfl h15 ?_
    exact f_ret1 rfl ⟨hw, rfl, fun _ => by rw [hm]; exact hO⟩
  | succ n ih =>
    intro p ns ps m hc L hw hm h14 h15 hM hO p1 p2 hn l1 l2 hL
    have hl := hM.2.1
    refine f_aln 0 rfl hL rfl ?_
    refine m_gfi so55 (-9) rfl hw hm rfl h15 ?_
    refine f_bipush (n := -9) rfl (by decide) ?_
    refine f_ic rfl (by decide) (by decide) (fun c_9 => absurd (show ¬ (-9 : Int) = (-9 : Int) from c_9) (by decide)) (fun _ => ?_)
    refine f_aln 0 rfl hL rfl ?_
    refine m_gfi so55 (p) rfl hw hm rfl h14 ?_
    refine f_aln 0 rfl hL rfl ?_
    refine m_gfi so55 (ln) rfl hw hm rfl hM.1 ?_
    refine f_ic rfl (by omega) (by omega) (fun c0 => ?_) (fun c0 => ?_)
    · have c0 : ln ≤ p := c0
      refine f_aln 0 rfl hL rfl ?_
      refine m_gfi so55 (-9) rfl hw hm rfl h15 ?_
      have e : pr ln t (n + 1) p ns ps = (-9, ns, ps) := by rw [pr_s, if_pos c0]
      rw [e]
      exact f_ret1 rfl ⟨hw, rfl, fun _ => by rw [hm]; exact hO⟩
    · have c0 : ¬ ln ≤ p := c0
      by_cases hN : t p = 78
      · by_cases h4 : 4 ≤ ns.length
        · skip
          have ht := hM.2.2.2.1 p
          refine f_aln 0 rfl hL rfl ?_
          refine m_gfr so55 rfl hw rfl (by decide) ?_
          refine f_aln 0 rfl hL rfl ?_
          refine m_gfi so55 (p) rfl hw hm rfl h14 ?_
          refine m_ia sa64 (t p) rfl hw hm (by omega) (by omega) (by decide) (hM.2.2.1 p (by omega) (by omega)) ?_
          refine f_bipush (n := 78) rfl (by decide) ?_
          refine f_ic rfl (by omega) (by omega) (fun c_9 => absurd (show ¬ (t p : Int) = (78 : Int) from c_9) (fun z => z hN)) (fun _ => ?_)
          refine f_aln 0 rfl hL rfl ?_
          refine m_gfi so55 ((ns.length : Int)) rfl hw hm rfl hO.1 ?_
          refine f_s [fi (4), fi ((ns.length : Int))] rfl rfl ?_
          refine f_ic rfl (by omega) (by omega) (fun _ => ?_) (fun c_9 => absurd (show (4 : Int) ≤ ((ns.length : Int) : Int) from (by omega)) c_9)
          refine f_aln 0 rfl hL rfl ?_
          refine m_gfr so55 rfl hw rfl (by decide) ?_
          refine f_aln 0 rfl hL rfl ?_
          refine m_gfi so55 (p) rfl hw hm rfl h14 ?_
          refine m_ia sa64 (t p) rfl hw hm (by omega) (by omega) (by decide) (hM.2.2.1 p (by omega) (by omega)) ?_
          refine f_bipush (n := 80) rfl (by decide) ?_
          refine f_ic rfl (by omega) (by omega) (fun _ => ?_) (fun c_9 => absurd (show ¬ (t p : Int) = (80 : Int) from (by omega)) c_9)
          refine f_aln 0 rfl hL rfl ?_
          refine f_aln 0 rfl hL rfl ?_
          refine m_gfi so55 (p) rfl hw hm rfl h14 ?_
          refine m_pf so55 rfl hw hm rfl rfl (by omega) (fun hc1 hw1 hm1 => ?_)
          refine f_goto rfl ?_
          refine f_aln 0 rfl hL rfl ?_
          refine m_gfi so55 (p) rfl hw1 hm1 rfl rfl ?_
          refine f_bipush (n := -9) rfl (by decide) ?_
          refine f_ic rfl (by omega) (by omega) (fun _ => ?_) (fun c_9 => absurd (show ¬ (p : Int) = (-9 : Int) from (by omega)) c_9)
          refine f_aln 0 rfl hL rfl ?_
          refine m_gfi so55 (p) rfl hw1 hm1 rfl rfl ?_
          have e : pr ln t (n + 1) p ns ps = (p, ns, ps) := by rw [pr_s, if_neg (by omega), if_pos hN, if_pos (by omega)]
          rw [e]
          exact f_ret1 rfl ⟨hw1, by rfl, fun z => absurd z (by show ¬ p = -9; omega)⟩
        · by_cases c1 : ln ≤ p + 1
          · have i1 : isW ln t (p + 1) 48 51 = false := decide_eq_false (by omega)
            have i2 : isW ln t (p + 2) 49 57 = false := decide_eq_false (by omega)
            have eF : nF ln t p = p + 1 := by unfold nF; rw [i1, i2, if_neg (by decide), if_neg (by decide), if_pos (by omega)]; omega
            have hFn : ¬ nF ln t p = -9 := by omega
            have hFv : (if nF ln t p = -9 then pr ln t n (p + 3) (ns ++ [(t (p + 1) - 48, t (p + 2) - 48)]) ps else (nF ln t p, ns, ps)) = (p + 1, ns, ps) := by rw [if_neg hFn, eF]
            have ht := hM.2.2.2.1 p
            refine f_aln 0 rfl hL rfl ?_
            refine m_gfr so55 rfl hw rfl (by decide) ?_
            refine f_aln 0 rfl hL rfl ?_
            refine m_gfi so55 (p) rfl hw hm rfl h14 ?_
            refine m_ia sa64 (t p) rfl hw hm (by omega) (by omega) (by decide) (hM.2.2.1 p (by omega) (by omega)) ?_
            refine f_bipush (n := 78) rfl (by decide) ?_
            refine f_ic rfl (by omega) (by omega) (fun c_9 => absurd (show ¬ (t p : Int) = (78 : Int) from c_9) (fun z => z hN)) (fun _ => ?_)
            refine f_aln 0 rfl hL rfl ?_
            refine m_gfi so55 ((ns.length : Int)) rfl hw hm rfl hO.1 ?_
            refine f_s [fi (4), fi ((ns.length : Int))] rfl rfl ?_
            refine f_ic rfl (by omega) (by omega) (fun c_9 => absurd (show (4 : Int) ≤ ((ns.length : Int) : Int) from c_9) (by omega)) (fun _ => ?_)
            refine f_aln 0 rfl hL rfl ?_
            refine f_s [.ref 55, .ref 55] rfl rfl ?_
            refine m_gfi so55 (p) rfl hw hm rfl h14 ?_
            refine f_s [fi (1), fi (p), .ref 55] rfl rfl ?_
            refine f_iadd rfl ?_
            refine m_pf so55 rfl hw hm rfl rfl (by omega) (fun hc1 hw1 hm1 => ?_)
            refine f_aln 0 rfl hL rfl ?_
            refine m_gfr so55 rfl hw1 rfl (by decide) ?_
            refine f_s [fi (2), .ref 62] rfl rfl ?_
            refine f_aln 0 rfl hL rfl ?_
            refine m_gfi so55 ((ns.length : Int)) rfl hw1 hm1 rfl hO.1 ?_
            refine f_imul rfl ?_
            refine f_aln 0 rfl hL rfl ?_
            refine f_bipush (n := 48) rfl (by decide) ?_
            refine f_bipush (n := 51) rfl (by decide) ?_
            refine f_bipush (n := 48) rfl (by decide) ?_
            refine m_k1 (t26_end (m := (up m 55 14 (p + 1))) (a := 48) (b := 51) (f := 48) (p := p + 1) (ln := ln) rfl (by omega) (by omega) hM.1 (by omega) (by omega) (by show 48 ≤ 48 ∧ 48 ≤ 65535; omega) (by decide) (by decide) h15 (by omega)) hw1 hm1 rfl rfl rfl (m_ar so55 hw1 rfl) rfl (fun hc2 hw2 hm2 => ?_)
            refine m_ias sa62 rfl hw2 hm2 (by omega) (by omega) (by decide) (by decide) (fun hc3 hw3 hm3 => ?_)
            refine f_aln 0 rfl hL rfl ?_
            refine m_gfr so55 rfl hw3 rfl (by decide) ?_
            refine f_s [fi (2), .ref 62] rfl rfl ?_
            refine f_aln 0 rfl hL rfl ?_
            refine m_gfi so55 ((ns.length : Int)) rfl hw3 hm3 rfl hO.1 ?_
            refine f_imul rfl ?_
            refine f_s [fi (1), fi (2 * ((ns.length : Int))), .ref 62] rfl rfl ?_
            refine f_iadd rfl ?_
            refine f_aln 0 rfl hL rfl ?_
            refine f_bipush (n := 49) rfl (by decide) ?_
            refine f_bipush (n := 57) rfl (by decide) ?_
            refine f_bipush (n := 48) rfl (by decide) ?_
            refine m_k1 (t26_skip (m := (up (up (up m 55 14 (p + 1)) 55 15 (p + 1)) 62 (2 * ((ns.length : Int))).toNat (0))) (a := 49) (b := 57) (f := 48) (p := p + 1) (ln := ln) rfl (by omega) (by omega) hM.1 (by omega) (by omega) (by show 48 ≤ 49 ∧ 49 ≤ 65535; omega) (by decide) (by decide) (g := p + 1) rfl (by omega) (by omega)) hw3 hm3 rfl rfl rfl (m_ar so55 hw3 rfl) rfl (fun hc4 hw4 hm4 => ?_)
            refine m_ias sa62 rfl hw4 hm4 (by omega) (by omega) (by decide) (by decide) (fun hc5 hw5 hm5 => ?_)
            refine f_aln 0 rfl hL rfl ?_
            refine f_s [.ref 55, .ref 55] rfl rfl ?_
            refine m_gfi so55 ((ns.length : Int)) rfl hw5 hm5 rfl hO.1 ?_
            refine f_s [fi (1), fi ((ns.length : Int)), .ref 55] rfl rfl ?_
            refine f_iadd rfl ?_
            refine m_pf so55 rfl hw5 hm5 rfl rfl (by omega) (fun hc6 hw6 hm6 => ?_)
            refine f_goto rfl ?_
            refine f_aln 0 rfl hL rfl ?_
            refine m_gfi so55 (p + 1) rfl hw6 hm6 rfl rfl ?_
            refine f_bipush (n := -9) rfl (by decide) ?_
            refine f_ic rfl (by omega) (by omega) (fun _ => ?_) (fun c_9 => absurd (show ¬ (p + 1 : Int) = (-9 : Int) from (by omega)) c_9)
            refine f_aln 0 rfl hL rfl ?_
            refine m_gfi so55 (p + 1) rfl hw6 hm6 rfl rfl ?_
            have e : pr ln t (n + 1) p ns ps = (p + 1, ns, ps) := by rw [pr_s, if_neg (by omega), if_pos hN, if_neg (by omega), hFv]
            rw [e]
            exact f_ret1 rfl ⟨hw6, by rfl, fun z => absurd z (by show ¬ p + 1 = -9; omega)⟩
          · have x1 : m 64 (p + 1).toNat = t (p + 1) := by rw [show p + 1 = p + 1 by omega]; exact hM.2.2.1 (p + 1) (by omega) (by omega)
            have y1 := hM.2.2.2.1 (p + 1)
            by_cases b1 : 48 ≤ t (p + 1) ∧ t (p + 1) ≤ 51
            · have i1 : isW ln t (p + 1) 48 51 = false := decide_eq_false (by omega)
              by_cases c2 : ln ≤ p + 2
              · have i2 : isW ln t (p + 2) 49 57 = false := decide_eq_false (by omega)
                have eF : nF ln t p = p + 1 + 1 := by unfold nF; rw [i1, i2, if_neg (by decide), if_neg (by decide), if_pos (by omega)]; omega
                have hFn : ¬ nF ln t p = -9 := by omega
                have hFv : (if nF ln t p = -9 then pr ln t n (p + 3) (ns ++ [(t (p + 1) - 48, t (p + 2) - 48)]) ps else (nF ln t p, ns, ps)) = (p + 1 + 1, ns, ps) := by rw [if_neg hFn, eF]
                have ht := hM.2.2.2.1 p
                refine f_aln 0 rfl hL rfl ?_
                refine m_gfr so55 rfl hw rfl (by decide) ?_
                refine f_aln 0 rfl hL rfl ?_
                refine m_gfi so55 (p) rfl hw hm rfl h14 ?_
                refine m_ia sa64 (t p) rfl hw hm (by omega) (by omega) (by decide) (hM.2.2.1 p (by omega) (by omega)) ?_
                refine f_bipush (n := 78) rfl (by decide) ?_
                refine f_ic rfl (by omega) (by omega) (fun c_9 => absurd (show ¬ (t p : Int) = (78 : Int) from c_9) (fun z => z hN)) (fun _ => ?_)
                refine f_aln 0 rfl hL rfl ?_
                refine m_gfi so55 ((ns.length : Int)) rfl hw hm rfl hO.1 ?_
                refine f_s [fi (4), fi ((ns.length : Int))] rfl rfl ?_
                refine f_ic rfl (by omega) (by omega) (fun c_9 => absurd (show (4 : Int) ≤ ((ns.length : Int) : Int) from c_9) (by omega)) (fun _ => ?_)
                refine f_aln 0 rfl hL rfl ?_
                refine f_s [.ref 55, .ref 55] rfl rfl ?_
                refine m_gfi so55 (p) rfl hw hm rfl h14 ?_
                refine f_s [fi (1), fi (p), .ref 55] rfl rfl ?_
                refine f_iadd rfl ?_
                refine m_pf so55 rfl hw hm rfl rfl (by omega) (fun hc1 hw1 hm1 => ?_)
                refine f_aln 0 rfl hL rfl ?_
                refine m_gfr so55 rfl hw1 rfl (by decide) ?_
                refine f_s [fi (2), .ref 62] rfl rfl ?_
                refine f_aln 0 rfl hL rfl ?_
                refine m_gfi so55 ((ns.length : Int)) rfl hw1 hm1 rfl hO.1 ?_
                refine f_imul rfl ?_
                refine f_aln 0 rfl hL rfl ?_
                refine f_bipush (n := 48) rfl (by decide) ?_
                refine f_bipush (n := 51) rfl (by decide) ?_
                refine f_bipush (n := 48) rfl (by decide) ?_
                refine m_k1 (t26_ok (m := (up m 55 14 (p + 1))) (a := 48) (b := 51) (f := 48) (p := p + 1) (ln := ln) rfl (by omega) (by omega) hM.1 (by omega) (by omega) (by show 48 ≤ 48 ∧ 48 ≤ 65535; omega) (by decide) (by decide) h15 (by omega) (v := t (p + 1)) (x1) (by omega) (by omega)) hw1 hm1 rfl rfl rfl (m_ar so55 hw1 rfl) rfl (fun hc2 hw2 hm2 => ?_)
                refine m_ias sa62 rfl hw2 hm2 (by omega) (by omega) (by decide) (by omega) (fun hc3 hw3 hm3 => ?_)
                refine f_aln 0 rfl hL rfl ?_
                refine m_gfr so55 rfl hw3 rfl (by decide) ?_
                refine f_s [fi (2), .ref 62] rfl rfl ?_
                refine f_aln 0 rfl hL rfl ?_
                refine m_gfi so55 ((ns.length : Int)) rfl hw3 hm3 rfl hO.1 ?_
                refine f_imul rfl ?_
                refine f_s [fi (1), fi (2 * ((ns.length : Int))), .ref 62] rfl rfl ?_
                refine f_iadd rfl ?_
                refine f_aln 0 rfl hL rfl ?_
                refine f_bipush (n := 49) rfl (by decide) ?_
                refine f_bipush (n := 57) rfl (by decide) ?_
                refine f_bipush (n := 48) rfl (by decide) ?_
                refine m_k1 (t26_end (m := (up (up (up m 55 14 (p + 1)) 55 14 (p + 1 + 1)) 62 (2 * ((ns.length : Int))).toNat (t (p + 1) - 48))) (a := 49) (b := 57) (f := 48) (p := p + 1 + 1) (ln := ln) rfl (by omega) (by omega) hM.1 (by omega) (by omega) (by show 48 ≤ 49 ∧ 49 ≤ 65535; omega) (by decide) (by decide) h15 (by omega)) hw3 hm3 rfl rfl rfl (m_ar so55 hw3 rfl) rfl (fun hc4 hw4 hm4 => ?_)
                refine m_ias sa62 rfl hw4 hm4 (by omega) (by omega) (by decide) (by decide) (fun hc5 hw5 hm5 => ?_)
                refine f_aln 0 rfl hL rfl ?_
                refine f_s [.ref 55, .ref 55] rfl rfl ?_
                refine m_gfi so55 ((ns.length : Int)) rfl hw5 hm5 rfl hO.1 ?_
                refine f_s [fi (1), fi ((ns.length : Int)), .ref 55] rfl rfl ?_
                refine f_iadd rfl ?_
                refine m_pf so55 rfl hw5 hm5 rfl rfl (by omega) (fun hc6 hw6 hm6 => ?_)
                refine f_goto rfl ?_
                refine f_aln 0 rfl hL rfl ?_
                refine m_gfi so55 (p + 1 + 1) rfl hw6 hm6 rfl rfl ?_
                refine f_bipush (n := -9) rfl (by decide) ?_
                refine f_ic rfl (by omega) (by omega) (fun _ => ?_) (fun c_9 => absurd (show ¬ (p + 1 + 1 : Int) = (-9 : Int) from (by omega)) c_9)
                refine f_aln 0 rfl hL rfl ?_
                refine m_gfi so55 (p + 1 + 1) rfl hw6 hm6 rfl rfl ?_
                have e : pr ln t (n + 1) p ns ps = (p + 1 + 1, ns, ps) := by rw [pr_s, if_neg (by omega), if_pos hN, if_neg (by omega), hFv]
                rw [e]
                exact f_ret1 rfl ⟨hw6, by rfl, fun z => absurd z (by show ¬ p + 1 + 1 = -9; omega)⟩
              · have x2 : m 64 (p + 1 + 1).toNat = t (p + 2) := by rw [show p + 1 + 1 = p + 2 by omega]; exact hM.2.2.1 (p + 2) (by omega) (by omega)
                have y2 := hM.2.2.2.1 (p + 2)
                by_cases b2 : 49 ≤ t (p + 2) ∧ t (p + 2) ≤ 57
                · have i2 : isW ln t (p + 2) 49 57 = false := decide_eq_false (by omega)
                  have hFv : nF ln t p = -9 := by unfold nF; rw [i1, i2, if_neg (by decide), if_neg (by decide), if_neg (by omega)]
                  have ht := hM.2.2.2.1 p
                  refine f_aln 0 rfl hL rfl ?_
                  refine m_gfr so55 rfl hw rfl (by decide) ?_
                  refine f_aln 0 rfl hL rfl ?_
                  refine m_gfi so55 (p) rfl hw hm rfl h14 ?_
                  refine m_ia sa64 (t p) rfl hw hm (by omega) (by omega) (by decide) (hM.2.2.1 p (by omega) (by omega)) ?_
                  refine f_bipush (n := 78) rfl (by decide) ?_
                  refine f_ic rfl (by omega) (by omega) (fun c_9 => absurd (show ¬ (t p : Int) = (78 : Int) from c_9) (fun z => z hN)) (fun _ => ?_)
                  refine f_aln 0 rfl hL rfl ?_
                  refine m_gfi so55 ((ns.length : Int)) rfl hw hm rfl hO.1 ?_
                  refine f_s [fi (4), fi ((ns.length : Int))] rfl rfl ?_
                  refine f_ic rfl (by omega) (by omega) (fun c_9 => absurd (show (4 : Int) ≤ ((ns.length : Int) : Int) from c_9) (by omega)) (fun _ => ?_)
                  refine f_aln 0 rfl hL rfl ?_
                  refine f_s [.ref 55, .ref 55] rfl rfl ?_
                  refine m_gfi so55 (p) rfl hw hm rfl h14 ?_
                  refine f_s [fi (1), fi (p), .ref 55] rfl rfl ?_
                  refine f_iadd rfl ?_
                  refine m_pf so55 rfl hw hm rfl rfl (by omega) (fun hc1 hw1 hm1 => ?_)
                  refine f_aln 0 rfl hL rfl ?_
                  refine m_gfr so55 rfl hw1 rfl (by decide) ?_
                  refine f_s [fi (2), .ref 62] rfl rfl ?_
                  refine f_aln 0 rfl hL rfl ?_
                  refine m_gfi so55 ((ns.length : Int)) rfl hw1 hm1 rfl hO.1 ?_
                  refine f_imul rfl ?_
                  refine f_aln 0 rfl hL rfl ?_
                  refine f_bipush (n := 48) rfl (by decide) ?_
                  refine f_bipush (n := 51) rfl (by decide) ?_
                  refine f_bipush (n := 48) rfl (by decide) ?_
                  refine m_k1 (t26_ok (m := (up m 55 14 (p + 1))) (a := 48) (b := 51) (f := 48) (p := p + 1) (ln := ln) rfl (by omega) (by omega) hM.1 (by omega) (by omega) (by show 48 ≤ 48 ∧ 48 ≤ 65535; omega) (by decide) (by decide) h15 (by omega) (v := t (p + 1)) (x1) (by omega) (by omega)) hw1 hm1 rfl rfl rfl (m_ar so55 hw1 rfl) rfl (fun hc2 hw2 hm2 => ?_)
                  refine m_ias sa62 rfl hw2 hm2 (by omega) (by omega) (by decide) (by omega) (fun hc3 hw3 hm3 => ?_)
                  refine f_aln 0 rfl hL rfl ?_
                  refine m_gfr so55 rfl hw3 rfl (by decide) ?_
                  refine f_s [fi (2), .ref 62] rfl rfl ?_
                  refine f_aln 0 rfl hL rfl ?_
                  refine m_gfi so55 ((ns.length : Int)) rfl hw3 hm3 rfl hO.1 ?_
                  refine f_imul rfl ?_
                  refine f_s [fi (1), fi (2 * ((ns.length : Int))), .ref 62] rfl rfl ?_
                  refine f_iadd rfl ?_
                  refine f_aln 0 rfl hL rfl ?_
                  refine f_bipush (n := 49) rfl (by decide) ?_
                  refine f_bipush (n := 57) rfl (by decide) ?_
                  refine f_bipush (n := 48) rfl (by decide) ?_
                  refine m_k1 (t26_ok (m := (up (up (up m 55 14 (p + 1)) 55 14 (p + 1 + 1)) 62 (2 * ((ns.length : Int))).toNat (t (p + 1) - 48))) (a := 49) (b := 57) (f := 48) (p := p + 1 + 1) (ln := ln) rfl (by omega) (by omega) hM.1 (by omega) (by omega) (by show 48 ≤ 49 ∧ 49 ≤ 65535; omega) (by decide) (by decide) h15 (by omega) (v := t (p + 2)) (x2) (by omega) (by omega)) hw3 hm3 rfl rfl rfl (m_ar so55 hw3 rfl) rfl (fun hc4 hw4 hm4 => ?_)
                  refine m_ias sa62 rfl hw4 hm4 (by omega) (by omega) (by decide) (by omega) (fun hc5 hw5 hm5 => ?_)
                  refine f_aln 0 rfl hL rfl ?_
                  refine f_s [.ref 55, .ref 55] rfl rfl ?_
                  refine m_gfi so55 ((ns.length : Int)) rfl hw5 hm5 rfl hO.1 ?_
                  refine f_s [fi (1), fi ((ns.length : Int)), .ref 55] rfl rfl ?_
                  refine f_iadd rfl ?_
                  refine m_pf so55 rfl hw5 hm5 rfl rfl (by omega) (fun hc6 hw6 hm6 => ?_)
                  refine f_goto rfl ?_
                  have hO2 : pOK (up (up (up (up (up (up m 55 14 (p + 1)) 55 14 (p + 1 + 1)) 62 (2 * ((ns.length : Int))).toNat (t (p + 1) - 48)) 55 14 (p + 1 + 1 + 1)) 62 ((2 * ((ns.length : Int))) + 1).toNat (t (p + 2) - 48)) 55 10 (((ns.length : Int)) + 1)) (ns ++ [(t (p + 1) - 48, t (p + 2) - 48)]) (ps) := pOK_n hO rfl rfl (fun _ => rfl) (fun i => by
                    have e1 : (2 * (ns.length : Int)).toNat = 2 * ns.length := by omega
                    have e2 : ((2 * (ns.length : Int)) + 1).toNat = 2 * ns.length + 1 := by omega
                    simp [up, e1, e2])
                  have e14 : (up (up (up (up (up (up m 55 14 (p + 1)) 55 14 (p + 1 + 1)) 62 (2 * ((ns.length : Int))).toNat (t (p + 1) - 48)) 55 14 (p + 1 + 1 + 1)) 62 ((2 * ((ns.length : Int))) + 1).toNat (t (p + 2) - 48)) 55 10 (((ns.length : Int)) + 1)) 55 14 = p + 3 := by show p + 1 + 1 + 1 = _; omega
                  have := ih (p + 3) (ns ++ [(t (p + 1) - 48, t (p + 2) - 48)]) (ps) (up (up (up (up (up (up m 55 14 (p + 1)) 55 14 (p + 1 + 1)) 62 (2 * ((ns.length : Int))).toNat (t (p + 1) - 48)) 55 14 (p + 1 + 1 + 1)) 62 ((2 * ((ns.length : Int))) + 1).toNat (t (p + 2) - 48)) 55 10 (((ns.length : Int)) + 1)) hc6 _ hw6 hm6 e14 h15 ⟨hM.1, hM.2.1, hM.2.2.1, hM.2.2.2⟩ hO2 (by omega) (by omega) (by omega) (by rw [List.length_append]; show ns.length + 1 ≤ 4; omega) (by omega) (hL.sel [0] rfl)
                  rw [pr_s, if_neg (by omega), if_pos hN, if_neg (by omega), if_pos hFv]
                  exact this
                · have i2 : isW ln t (p + 2) 49 57 = true := decide_eq_true (by omega)
                  have eF : nF ln t p = p + 1 + 1 := by unfold nF; rw [i1, i2, if_neg (by decide), if_pos rfl]; omega
                  have hFn : ¬ nF ln t p = -9 := by omega
                  have hFv : (if nF ln t p = -9 then pr ln t n (p + 3) (ns ++ [(t (p + 1) - 48, t (p + 2) - 48)]) ps else (nF ln t p, ns, ps)) = (p + 1 + 1, ns, ps) := by rw [if_neg hFn, eF]
                  have ht := hM.2.2.2.1 p
                  refine f_aln 0 rfl hL rfl ?_
                  refine m_gfr so55 rfl hw rfl (by decide) ?_
                  refine f_aln 0 rfl hL rfl ?_
                  refine m_gfi so55 (p) rfl hw hm rfl h14 ?_
                  refine m_ia sa64 (t p) rfl hw hm (by omega) (by omega) (by decide) (hM.2.2.1 p (by omega) (by omega)) ?_
                  refine f_bipush (n := 78) rfl (by decide) ?_
                  refine f_ic rfl (by omega) (by omega) (fun c_9 => absurd (show ¬ (t p : Int) = (78 : Int) from c_9) (fun z => z hN)) (fun _ => ?_)
                  refine f_aln 0 rfl hL rfl ?_
                  refine m_gfi so55 ((ns.length : Int)) rfl hw hm rfl hO.1 ?_
                  refine f_s [fi (4), fi ((ns.length : Int))] rfl rfl ?_
                  refine f_ic rfl (by omega) (by omega) (fun c_9 => absurd (show (4 : Int) ≤ ((ns.length : Int) : Int) from c_9) (by omega)) (fun _ => ?_)
                  refine f_aln 0 rfl hL rfl ?_
                  refine f_s [.ref 55, .ref 55] rfl rfl ?_
                  refine m_gfi so55 (p) rfl hw hm rfl h14 ?_
                  refine f_s [fi (1), fi (p), .ref 55] rfl rfl ?_
                  refine f_iadd rfl ?_
                  refine m_pf so55 rfl hw hm rfl rfl (by omega) (fun hc1 hw1 hm1 => ?_)
                  refine f_aln 0 rfl hL rfl ?_
                  refine m_gfr so55 rfl hw1 rfl (by decide) ?_
                  refine f_s [fi (2), .ref 62] rfl rfl ?_
                  refine f_aln 0 rfl hL rfl ?_
                  refine m_gfi so55 ((ns.length : Int)) rfl hw1 hm1 rfl hO.1 ?_
                  refine f_imul rfl ?_
                  refine f_aln 0 rfl hL rfl ?_
                  refine f_bipush (n := 48) rfl (by decide) ?_
                  refine f_bipush (n := 51) rfl (by decide) ?_
                  refine f_bipush (n := 48) rfl (by decide) ?_
                  refine m_k1 (t26_ok (m := (up m 55 14 (p + 1))) (a := 48) (b := 51) (f := 48) (p := p + 1) (ln := ln) rfl (by omega) (by omega) hM.1 (by omega) (by omega) (by show 48 ≤ 48 ∧ 48 ≤ 65535; omega) (by decide) (by decide) h15 (by omega) (v := t (p + 1)) (x1) (by omega) (by omega)) hw1 hm1 rfl rfl rfl (m_ar so55 hw1 rfl) rfl (fun hc2 hw2 hm2 => ?_)
                  refine m_ias sa62 rfl hw2 hm2 (by omega) (by omega) (by decide) (by omega) (fun hc3 hw3 hm3 => ?_)
                  refine f_aln 0 rfl hL rfl ?_
                  refine m_gfr so55 rfl hw3 rfl (by decide) ?_
                  refine f_s [fi (2), .ref 62] rfl rfl ?_
                  refine f_aln 0 rfl hL rfl ?_
                  refine m_gfi so55 ((ns.length : Int)) rfl hw3 hm3 rfl hO.1 ?_
                  refine f_imul rfl ?_
                  refine f_s [fi (1), fi (2 * ((ns.length : Int))), .ref 62] rfl rfl ?_
                  refine f_iadd rfl ?_
                  refine f_aln 0 rfl hL rfl ?_
                  refine f_bipush (n := 49) rfl (by decide) ?_
                  refine f_bipush (n := 57) rfl (by decide) ?_
                  refine f_bipush (n := 48) rfl (by decide) ?_
                  refine m_k1 (t26_bad (m := (up (up (up m 55 14 (p + 1)) 55 14 (p + 1 + 1)) 62 (2 * ((ns.length : Int))).toNat (t (p + 1) - 48))) (a := 49) (b := 57) (f := 48) (p := p + 1 + 1) (ln := ln) rfl (by omega) (by omega) hM.1 (by omega) (by omega) (by show 48 ≤ 49 ∧ 49 ≤ 65535; omega) (by decide) (by decide) h15 (by omega) (v := t (p + 2)) (x2) (by omega) (by omega)) hw3 hm3 rfl rfl rfl (m_ar so55 hw3 rfl) rfl (fun hc4 hw4 hm4 => ?_)
                  refine m_ias sa62 rfl hw4 hm4 (by omega) (by omega) (by decide) (by decide) (fun hc5 hw5 hm5 => ?_)
                  refine f_aln 0 rfl hL rfl ?_
                  refine f_s [.ref 55, .ref 55] rfl rfl ?_
                  refine m_gfi so55 ((ns.length : Int)) rfl hw5 hm5 rfl hO.1 ?_
                  refine f_s [fi (1), fi ((ns.length : Int)), .ref 55] rfl rfl ?_
                  refine f_iadd rfl ?_
                  refine m_pf so55 rfl hw5 hm5 rfl rfl (by omega) (fun hc6 hw6 hm6 => ?_)
                  refine f_goto rfl ?_
                  refine f_aln 0 rfl hL rfl ?_
                  refine m_gfi so55 (p + 1 + 1) rfl hw6 hm6 rfl rfl ?_
                  refine f_bipush (n := -9) rfl (by decide) ?_
                  refine f_ic rfl (by omega) (by omega) (fun _ => ?_) (fun c_9 => absurd (show ¬ (p + 1 + 1 : Int) = (-9 : Int) from (by omega)) c_9)
                  refine f_aln 0 rfl hL rfl ?_
                  refine m_gfi so55 (p + 1 + 1) rfl hw6 hm6 rfl rfl ?_
                  have e : pr ln t (n + 1) p ns ps = (p + 1 + 1, ns, ps) := by rw [pr_s, if_neg (by omega), if_pos hN, if_neg (by omega), hFv]
                  rw [e]
                  exact f_ret1 rfl ⟨hw6, by rfl, fun z => absurd z (by show ¬ p + 1 + 1 = -9; omega)⟩
            · have i1 : isW ln t (p + 1) 48 51 = true := decide_eq_true (by omega)
              have eF : nF ln t p = p + 1 := by unfold nF; rw [i1, if_pos rfl]
              have hFn : ¬ nF ln t p = -9 := by omega
              have hFv : (if nF ln t p = -9 then pr ln t n (p + 3) (ns ++ [(t (p + 1) - 48, t (p + 2) - 48)]) ps else (nF ln t p, ns, ps)) = (p + 1, ns, ps) := by rw [if_neg hFn, eF]
              have ht := hM.2.2.2.1 p
              refine f_aln 0 rfl hL rfl ?_
              refine m_gfr so55 rfl hw rfl (by decide) ?_
              refine f_aln 0 rfl hL rfl ?_
              refine m_gfi so55 (p) rfl hw hm rfl h14 ?_
              refine m_ia sa64 (t p) rfl hw hm (by omega) (by omega) (by decide) (hM.2.2.1 p (by omega) (by omega)) ?_
              refine f_bipush (n := 78) rfl (by decide) ?_
              refine f_ic rfl (by omega) (by omega) (fun c_9 => absurd (show ¬ (t p : Int) = (78 : Int) from c_9) (fun z => z hN)) (fun _ => ?_)
              refine f_aln 0 rfl hL rfl ?_
              refine m_gfi so55 ((ns.length : Int)) rfl hw hm rfl hO.1 ?_
              refine f_s [fi (4), fi ((ns.length : Int))] rfl rfl ?_
              refine f_ic rfl (by omega) (by omega) (fun c_9 => absurd (show (4 : Int) ≤ ((ns.length : Int) : Int) from c_9) (by omega)) (fun _ => ?_)
              refine f_aln 0 rfl hL rfl ?_
              refine f_s [.ref 55, .ref 55] rfl rfl ?_
              refine m_gfi so55 (p) rfl hw hm rfl h14 ?_
              refine f_s [fi (1), fi (p), .ref 55] rfl rfl ?_
              refine f_iadd rfl ?_
              refine m_pf so55 rfl hw hm rfl rfl (by omega) (fun hc1 hw1 hm1 => ?_)
              refine f_aln 0 rfl hL rfl ?_
              refine m_gfr so55 rfl hw1 rfl (by decide) ?_
              refine f_s [fi (2), .ref 62] rfl rfl ?_
              refine f_aln 0 rfl hL rfl ?_
              refine m_gfi so55 ((ns.length : Int)) rfl hw1 hm1 rfl hO.1 ?_
              refine f_imul rfl ?_
              refine f_aln 0 rfl hL rfl ?_
              refine f_bipush (n := 48) rfl (by decide) ?_
              refine f_bipush (n := 51) rfl (by decide) ?_
              refine f_bipush (n := 48) rfl (by decide) ?_
              refine m_k1 (t26_bad (m := (up m 55 14 (p + 1))) (a := 48) (b := 51) (f := 48) (p := p + 1) (ln := ln) rfl (by omega) (by omega) hM.1 (by omega) (by omega) (by show 48 ≤ 48 ∧ 48 ≤ 65535; omega) (by decide) (by decide) h15 (by omega) (v := t (p + 1)) (x1) (by omega) (by omega)) hw1 hm1 rfl rfl rfl (m_ar so55 hw1 rfl) rfl (fun hc2 hw2 hm2 => ?_)
              refine m_ias sa62 rfl hw2 hm2 (by omega) (by omega) (by decide) (by decide) (fun hc3 hw3 hm3 => ?_)
              refine f_aln 0 rfl hL rfl ?_
              refine m_gfr so55 rfl hw3 rfl (by decide) ?_
              refine f_s [fi (2), .ref 62] rfl rfl ?_
              refine f_aln 0 rfl hL rfl ?_
              refine m_gfi so55 ((ns.length : Int)) rfl hw3 hm3 rfl hO.1 ?_
              refine f_imul rfl ?_
              refine f_s [fi (1), fi (2 * ((ns.length : Int))), .ref 62] rfl rfl ?_
              refine f_iadd rfl ?_
              refine f_aln 0 rfl hL rfl ?_
              refine f_bipush (n := 49) rfl (by decide) ?_
              refine f_bipush (n := 57) rfl (by decide) ?_
              refine f_bipush (n := 48) rfl (by decide) ?_
              refine m_k1 (t26_skip (m := (up (up (up m 55 14 (p + 1)) 55 15 (p + 1)) 62 (2 * ((ns.length : Int))).toNat (0))) (a := 49) (b := 57) (f := 48) (p := p + 1) (ln := ln) rfl (by omega) (by omega) hM.1 (by omega) (by omega) (by show 48 ≤ 49 ∧ 49 ≤ 65535; omega) (by decide) (by decide) (g := p + 1) rfl (by omega) (by omega)) hw3 hm3 rfl rfl rfl (m_ar so55 hw3 rfl) rfl (fun hc4 hw4 hm4 => ?_)
              refine m_ias sa62 rfl hw4 hm4 (by omega) (by omega) (by decide) (by decide) (fun hc5 hw5 hm5 => ?_)
              refine f_aln 0 rfl hL rfl ?_
              refine f_s [.ref 55, .ref 55] rfl rfl ?_
              refine m_gfi so55 ((ns.length : Int)) rfl hw5 hm5 rfl hO.1 ?_
              refine f_s [fi (1), fi ((ns.length : Int)), .ref 55] rfl rfl ?_
              refine f_iadd rfl ?_
              refine m_pf so55 rfl hw5 hm5 rfl rfl (by omega) (fun hc6 hw6 hm6 => ?_)
              refine f_goto rfl ?_
              refine f_aln 0 rfl hL rfl ?_
              refine m_gfi so55 (p + 1) rfl hw6 hm6 rfl rfl ?_
              refine f_bipush (n := -9) rfl (by decide) ?_
              refine f_ic rfl (by omega) (by omega) (fun _ => ?_) (fun c_9 => absurd (show ¬ (p + 1 : Int) = (-9 : Int) from (by omega)) c_9)
              refine f_aln 0 rfl hL rfl ?_
              refine m_gfi so55 (p + 1) rfl hw6 hm6 rfl rfl ?_
              have e : pr ln t (n + 1) p ns ps = (p + 1, ns, ps) := by rw [pr_s, if_neg (by omega), if_pos hN, if_neg (by omega), hFv]
              rw [e]
              exact f_ret1 rfl ⟨hw6, by rfl, fun z => absurd z (by show ¬ p + 1 = -9; omega)⟩
      · by_cases hP : t p = 80
        · by_cases h5 : 5 ≤ ps.length
          · skip
            have ht := hM.2.2.2.1 p
            refine f_aln 0 rfl hL rfl ?_
            refine m_gfr so55 rfl hw rfl (by decide) ?_
            refine f_aln 0 rfl hL rfl ?_
            refine m_gfi so55 (p) rfl hw hm rfl h14 ?_
            refine m_ia sa64 (t p) rfl hw hm (by omega) (by omega) (by decide) (hM.2.2.1 p (by omega) (by omega)) ?_
            refine f_bipush (n := 78) rfl (by decide) ?_
            refine f_ic rfl (by omega) (by omega) (fun _ => ?_) (fun c_9 => absurd (show ¬ (t p : Int) = (78 : Int) from hN) c_9)
            refine f_aln 0 rfl hL rfl ?_
            refine m_gfr so55 rfl hw rfl (by decide) ?_
            refine f_aln 0 rfl hL rfl ?_
            refine m_gfi so55 (p) rfl hw hm rfl h14 ?_
            refine m_ia sa64 (t p) rfl hw hm (by omega) (by omega) (by decide) (hM.2.2.1 p (by omega) (by omega)) ?_
            refine f_bipush (n := 80) rfl (by decide) ?_
            refine f_ic rfl (by omega) (by omega) (fun c_9 => absurd (show ¬ (t p : Int) = (80 : Int) from c_9) (fun z => z hP)) (fun _ => ?_)
            refine f_aln 0 rfl hL rfl ?_
            refine m_gfi so55 ((ps.length : Int)) rfl hw hm rfl hO.2.1 ?_
            refine f_s [fi (5), fi ((ps.length : Int))] rfl rfl ?_
            refine f_ic rfl (by omega) (by omega) (fun _ => ?_) (fun c_9 => absurd (show (5 : Int) ≤ ((ps.length : Int) : Int) from (by omega)) c_9)
            refine f_aln 0 rfl hL rfl ?_
            refine f_aln 0 rfl hL rfl ?_
            refine m_gfi so55 (p) rfl hw hm rfl h14 ?_
            refine m_pf so55 rfl hw hm rfl rfl (by omega) (fun hc1 hw1 hm1 => ?_)
            refine f_goto rfl ?_
            refine f_aln 0 rfl hL rfl ?_
            refine m_gfi so55 (p) rfl hw1 hm1 rfl rfl ?_
            refine f_bipush (n := -9) rfl (by decide) ?_
            refine f_ic rfl (by omega) (by omega) (fun _ => ?_) (fun c_9 => absurd (show ¬ (p : Int) = (-9 : Int) from (by omega)) c_9)
            refine f_aln 0 rfl hL rfl ?_
            refine m_gfi so55 (p) rfl hw1 hm1 rfl rfl ?_
            have e : pr ln t (n + 1) p ns ps = (p, ns, ps) := by rw [pr_s, if_neg (by omega), if_neg hN, if_pos hP, if_pos (by omega)]
            rw [e]
            exact f_ret1 rfl ⟨hw1, by rfl, fun z => absurd z (by show ¬ p = -9; omega)⟩
          · by_cases c1 : ln ≤ p + 1
            · have i1 : isW ln t (p + 1) 48 57 = false := decide_eq_false (by omega)
              have i2 : isW ln t (p + 2) (t (p + 1)) 57 = false := decide_eq_false (by omega)
              have i3 : isW ln t (p + 3) 97 112 = false := decide_eq_false (by omega)
              have eF : pF ln t p = p + 1 := by unfold pF; rw [i1, i2, i3, if_neg (by decide), if_neg (by decide), if_neg (by decide), if_pos (by omega)]; omega
              have hFn : ¬ pF ln t p = -9 := by omega
              have hFv : (if pF ln t p = -9 then pr ln t n (p + 4) ns (ps ++ [(t (p + 1) - 48, t (p + 2) - 48, t (p + 3) - 97)]) else (pF ln t p, ns, ps)) = (p + 1, ns, ps) := by rw [if_neg hFn, eF]
              have ht := hM.2.2.2.1 p
              refine f_aln 0 rfl hL rfl ?_
              refine m_gfr so55 rfl hw rfl (by decide) ?_
              refine f_aln 0 rfl hL rfl ?_
              refine m_gfi so55 (p) rfl hw hm rfl h14 ?_
              refine m_ia sa64 (t p) rfl hw hm (by omega) (by omega) (by decide) (hM.2.2.1 p (by omega) (by omega)) ?_
              refine f_bipush (n := 78) rfl (by decide) ?_
              refine f_ic rfl (by omega) (by omega) (fun _ => ?_) (fun c_9 => absurd (show ¬ (t p : Int) = (78 : Int) from hN) c_9)
              refine f_aln 0 rfl hL rfl ?_
              refine m_gfr so55 rfl hw rfl (by decide) ?_
              refine f_aln 0 rfl hL rfl ?_
              refine m_gfi so55 (p) rfl hw hm rfl h14 ?_
              refine m_ia sa64 (t p) rfl hw hm (by omega) (by omega) (by decide) (hM.2.2.1 p (by omega) (by omega)) ?_
              refine f_bipush (n := 80) rfl (by decide) ?_
              refine f_ic rfl (by omega) (by omega) (fun c_9 => absurd (show ¬ (t p : Int) = (80 : Int) from c_9) (fun z => z hP)) (fun _ => ?_)
              refine f_aln 0 rfl hL rfl ?_
              refine m_gfi so55 ((ps.length : Int)) rfl hw hm rfl hO.2.1 ?_
              refine f_s [fi (5), fi ((ps.length : Int))] rfl rfl ?_
              refine f_ic rfl (by omega) (by omega) (fun c_9 => absurd (show (5 : Int) ≤ ((ps.length : Int) : Int) from c_9) (by omega)) (fun _ => ?_)
              refine f_aln 0 rfl hL rfl ?_
              refine f_s [.ref 55, .ref 55] rfl rfl ?_
              refine m_gfi so55 (p) rfl hw hm rfl h14 ?_
              refine f_s [fi (1), fi (p), .ref 55] rfl rfl ?_
              refine f_iadd rfl ?_
              refine m_pf so55 rfl hw hm rfl rfl (by omega) (fun hc1 hw1 hm1 => ?_)
              refine f_aln 0 rfl hL rfl ?_
              refine f_bipush (n := 48) rfl (by decide) ?_
              refine f_bipush (n := 57) rfl (by decide) ?_
              refine f_bipush (n := 48) rfl (by decide) ?_
              refine m_k1 (t26_end (m := (up m 55 14 (p + 1))) (a := 48) (b := 57) (f := 48) (p := p + 1) (ln := ln) rfl (by omega) (by omega) hM.1 (by omega) (by omega) (by show 48 ≤ 48 ∧ 48 ≤ 65535; omega) (by decide) (by decide) h15 (by omega)) hw1 hm1 rfl rfl rfl (m_ar so55 hw1 rfl) rfl (fun hc2 hw2 hm2 => ?_)
              refine f_istn [(1, fi (0)), (0, .ref 55)] rfl (by decide) hL rfl (fun L1 hL1 => ?_)
              refine f_aln 1 rfl hL1 rfl ?_
              refine m_gfr so55 rfl hw2 rfl (by decide) ?_
              refine f_s [fi (3), .ref 63] rfl rfl ?_
              refine f_aln 1 rfl hL1 rfl ?_
              refine m_gfi so55 ((ps.length : Int)) rfl hw2 hm2 rfl hO.2.1 ?_
              refine f_imul rfl ?_
              refine f_iln 0 rfl hL1 rfl ?_
              refine m_ias sa63 rfl hw2 hm2 (by omega) (by omega) (by decide) (by decide) (fun hc3 hw3 hm3 => ?_)
              refine f_aln 1 rfl hL1 rfl ?_
              refine m_gfr so55 rfl hw3 rfl (by decide) ?_
              refine f_s [fi (3), .ref 63] rfl rfl ?_
              refine f_aln 1 rfl hL1 rfl ?_
              refine m_gfi so55 ((ps.length : Int)) rfl hw3 hm3 rfl hO.2.1 ?_
              refine f_imul rfl ?_
              refine f_s [fi (1), fi (3 * ((ps.length : Int))), .ref 63] rfl rfl ?_
              refine f_iadd rfl ?_
              refine f_aln 1 rfl hL1 rfl ?_
              refine f_bipush (n := 48) rfl (by decide) ?_
              refine f_iln 0 rfl hL1 rfl ?_
              refine f_iadd rfl ?_
              refine f_bipush (n := 57) rfl (by decide) ?_
              refine f_bipush (n := 48) rfl (by decide) ?_
              refine m_k1 (t26_skip (m := (up (up (up m 55 14 (p + 1)) 55 15 (p + 1)) 63 (3 * ((ps.length : Int))).toNat (0))) (a := 48 + 0) (b := 57) (f := 48) (p := p + 1) (ln := ln) rfl (by omega) (by omega) hM.1 (by omega) (by omega) (by show 48 ≤ 48 + 0 ∧ 48 + 0 ≤ 65535; omega) (by decide) (by decide) (g := p + 1) rfl (by omega) (by omega)) hw3 hm3 rfl rfl rfl (m_ar so55 hw3 rfl) rfl (fun hc4 hw4 hm4 => ?_)
              refine m_ias sa63 rfl hw4 hm4 (by omega) (by omega) (by decide) (by decide) (fun hc5 hw5 hm5 => ?_)
              refine f_aln 1 rfl hL1 rfl ?_
              refine m_gfr so55 rfl hw5 rfl (by decide) ?_
              refine f_s [fi (3), .ref 63] rfl rfl ?_
              refine f_aln 1 rfl hL1 rfl ?_
              refine m_gfi so55 ((ps.length : Int)) rfl hw5 hm5 rfl hO.2.1 ?_
              refine f_imul rfl ?_
              refine f_s [fi (2), fi (3 * ((ps.length : Int))), .ref 63] rfl rfl ?_
              refine f_iadd rfl ?_
              refine f_aln 1 rfl hL1 rfl ?_
              refine f_bipush (n := 97) rfl (by decide) ?_
              refine f_bipush (n := 112) rfl (by decide) ?_
              refine f_bipush (n := 97) rfl (by decide) ?_
              refine m_k1 (t26_skip (m := (up (up (up (up (up m 55 14 (p + 1)) 55 15 (p + 1)) 63 (3 * ((ps.length : Int))).toNat (0)) 55 15 (p + 1)) 63 ((3 * ((ps.length : Int))) + 1).toNat (0))) (a := 97) (b := 112) (f := 97) (p := p + 1) (ln := ln) rfl (by omega) (by omega) hM.1 (by omega) (by omega) (by show 48 ≤ 97 ∧ 97 ≤ 65535; omega) (by decide) (by decide) (g := p + 1) rfl (by omega) (by omega)) hw5 hm5 rfl rfl rfl (m_ar so55 hw5 rfl) rfl (fun hc6 hw6 hm6 => ?_)
              refine m_ias sa63 rfl hw6 hm6 (by omega) (by omega) (by decide) (by decide) (fun hc7 hw7 hm7 => ?_)
              refine f_aln 1 rfl hL1 rfl ?_
              refine f_s [.ref 55, .ref 55] rfl rfl ?_
              refine m_gfi so55 ((ps.length : Int)) rfl hw7 hm7 rfl hO.2.1 ?_
              refine f_s [fi (1), fi ((ps.length : Int)), .ref 55] rfl rfl ?_
              refine f_iadd rfl ?_
              refine m_pf so55 rfl hw7 hm7 rfl rfl (by omega) (fun hc8 hw8 hm8 => ?_)
              refine f_goto rfl ?_
              refine f_aln 1 rfl hL1 rfl ?_
              refine m_gfi so55 (p + 1) rfl hw8 hm8 rfl rfl ?_
              refine f_bipush (n := -9) rfl (by decide) ?_
              refine f_ic rfl (by omega) (by omega) (fun _ => ?_) (fun c_9 => absurd (show ¬ (p + 1 : Int) = (-9 : Int) from (by omega)) c_9)
              refine f_aln 1 rfl hL1 rfl ?_
              refine m_gfi so55 (p + 1) rfl hw8 hm8 rfl rfl ?_
              have e : pr ln t (n + 1) p ns ps = (p + 1, ns, ps) := by rw [pr_s, if_neg (by omega), if_neg hN, if_pos hP, if_neg (by omega), hFv]
              rw [e]
              exact f_ret1 rfl ⟨hw8, by rfl, fun z => absurd z (by show ¬ p + 1 = -9; omega)⟩
            · have x1 : m 64 (p + 1).toNat = t (p + 1) := by rw [show p + 1 = p + 1 by omega]; exact hM.2.2.1 (p + 1) (by omega) (by omega)
              have y1 := hM.2.2.2.1 (p + 1)
              by_cases b1 : 48 ≤ t (p + 1) ∧ t (p + 1) ≤ 57
              · have i1 : isW ln t (p + 1) 48 57 = false := decide_eq_false (by omega)
                by_cases c2 : ln ≤ p + 2
                · have i2 : isW ln t (p + 2) (t (p + 1)) 57 = false := decide_eq_false (by omega)
                  have i3 : isW ln t (p + 3) 97 112 = false := decide_eq_false (by omega)
                  have eF : pF ln t p = p + 1 + 1 := by unfold pF; rw [i1, i2, i3, if_neg (by decide), if_neg (by decide), if_neg (by decide), if_pos (by omega)]; omega
                  have hFn : ¬ pF ln t p = -9 := by omega
                  have hFv : (if pF ln t p = -9 then pr ln t n (p + 4) ns (ps ++ [(t (p + 1) - 48, t (p + 2) - 48, t (p + 3) - 97)]) else (pF ln t p, ns, ps)) = (p + 1 + 1, ns, ps) := by rw [if_neg hFn, eF]
                  have ht := hM.2.2.2.1 p
                  refine f_aln 0 rfl hL rfl ?_
                  refine m_gfr so55 rfl hw rfl (by decide) ?_
                  refine f_aln 0 rfl hL rfl ?_
                  refine m_gfi so55 (p) rfl hw hm rfl h14 ?_
                  refine m_ia sa64 (t p) rfl hw hm (by omega) (by omega) (by decide) (hM.2.2.1 p (by omega) (by omega)) ?_
                  refine f_bipush (n := 78) rfl (by decide) ?_
                  refine f_ic rfl (by omega) (by omega) (fun _ => ?_) (fun c_9 => absurd (show ¬ (t p : Int) = (78 : Int) from hN) c_9)
                  refine f_aln 0 rfl hL rfl ?_
                  refine m_gfr so55 rfl hw rfl (by decide) ?_
                  refine f_aln 0 rfl hL rfl ?_
                  refine m_gfi so55 (p) rfl hw hm rfl h14 ?_
                  refine m_ia sa64 (t p) rfl hw hm (by omega) (by omega) (by decide) (hM.2.2.1 p (by omega) (by omega)) ?_
                  refine f_bipush (n := 80) rfl (by decide) ?_
                  refine f_ic rfl (by omega) (by omega) (fun c_9 => absurd (show ¬ (t p : Int) = (80 : Int) from c_9) (fun z => z hP)) (fun _ => ?_)
                  refine f_aln 0 rfl hL rfl ?_
                  refine m_gfi so55 ((ps.length : Int)) rfl hw hm rfl hO.2.1 ?_
                  refine f_s [fi (5), fi ((ps.length : Int))] rfl rfl ?_
                  refine f_ic rfl (by omega) (by omega) (fun c_9 => absurd (show (5 : Int) ≤ ((ps.length : Int) : Int) from c_9) (by omega)) (fun _ => ?_)
                  refine f_aln 0 rfl hL rfl ?_
                  refine f_s [.ref 55, .ref 55] rfl rfl ?_
                  refine m_gfi so55 (p) rfl hw hm rfl h14 ?_
                  refine f_s [fi (1), fi (p), .ref 55] rfl rfl ?_
                  refine f_iadd rfl ?_
                  refine m_pf so55 rfl hw hm rfl rfl (by omega) (fun hc1 hw1 hm1 => ?_)
                  refine f_aln 0 rfl hL rfl ?_
                  refine f_bipush (n := 48) rfl (by decide) ?_
                  refine f_bipush (n := 57) rfl (by decide) ?_
                  refine f_bipush (n := 48) rfl (by decide) ?_
                  refine m_k1 (t26_ok (m := (up m 55 14 (p + 1))) (a := 48) (b := 57) (f := 48) (p := p + 1) (ln := ln) rfl (by omega) (by omega) hM.1 (by omega) (by omega) (by show 48 ≤ 48 ∧ 48 ≤ 65535; omega) (by decide) (by decide) h15 (by omega) (v := t (p + 1)) (x1) (by omega) (by omega)) hw1 hm1 rfl rfl rfl (m_ar so55 hw1 rfl) rfl (fun hc2 hw2 hm2 => ?_)
                  refine f_istn [(1, fi (t (p + 1) - 48)), (0, .ref 55)] rfl (by decide) hL rfl (fun L1 hL1 => ?_)
                  refine f_aln 1 rfl hL1 rfl ?_
                  refine m_gfr so55 rfl hw2 rfl (by decide) ?_
                  refine f_s [fi (3), .ref 63] rfl rfl ?_
                  refine f_aln 1 rfl hL1 rfl ?_
                  refine m_gfi so55 ((ps.length : Int)) rfl hw2 hm2 rfl hO.2.1 ?_
                  refine f_imul rfl ?_
                  refine f_iln 0 rfl hL1 rfl ?_
                  refine m_ias sa63 rfl hw2 hm2 (by omega) (by omega) (by decide) (by omega) (fun hc3 hw3 hm3 => ?_)
                  refine f_aln 1 rfl hL1 rfl ?_
                  refine m_gfr so55 rfl hw3 rfl (by decide) ?_
                  refine f_s [fi (3), .ref 63] rfl rfl ?_
                  refine f_aln 1 rfl hL1 rfl ?_
                  refine m_gfi so55 ((ps.length : Int)) rfl hw3 hm3 rfl hO.2.1 ?_
                  refine f_imul rfl ?_
                  refine f_s [fi (1), fi (3 * ((ps.length : Int))), .ref 63] rfl rfl ?_
                  refine f_iadd rfl ?_
                  refine f_aln 1 rfl hL1 rfl ?_
                  refine f_bipush (n := 48) rfl (by decide) ?_
                  refine f_iln 0 rfl hL1 rfl ?_
                  refine f_iadd rfl ?_
                  refine f_bipush (n := 57) rfl (by decide) ?_
                  refine f_bipush (n := 48) rfl (by decide) ?_
                  refine m_k1 (t26_end (m := (up (up (up m 55 14 (p + 1)) 55 14 (p + 1 + 1)) 63 (3 * ((ps.length : Int))).toNat (t (p + 1) - 48))) (a := 48 + (t (p + 1) - 48)) (b := 57) (f := 48) (p := p + 1 + 1) (ln := ln) rfl (by omega) (by omega) hM.1 (by omega) (by omega) (by show 48 ≤ 48 + (t (p + 1) - 48) ∧ 48 + (t (p + 1) - 48) ≤ 65535; omega) (by decide) (by decide) h15 (by omega)) hw3 hm3 rfl rfl rfl (m_ar so55 hw3 rfl) rfl (fun hc4 hw4 hm4 => ?_)
                  refine m_ias sa63 rfl hw4 hm4 (by omega) (by omega) (by decide) (by decide) (fun hc5 hw5 hm5 => ?_)
                  refine f_aln 1 rfl hL1 rfl ?_
                  refine m_gfr so55 rfl hw5 rfl (by decide) ?_
                  refine f_s [fi (3), .ref 63] rfl rfl ?_
                  refine f_aln 1 rfl hL1 rfl ?_
                  refine m_gfi so55 ((ps.length : Int)) rfl hw5 hm5 rfl hO.2.1 ?_
                  refine f_imul rfl ?_
                  refine f_s [fi (2), fi (3 * ((ps.length : Int))), .ref 63] rfl rfl ?_
                  refine f_iadd rfl ?_
                  refine f_aln 1 rfl hL1 rfl ?_
                  refine f_bipush (n := 97) rfl (by decide) ?_
                  refine f_bipush (n := 112) rfl (by decide) ?_
                  refine f_bipush (n := 97) rfl (by decide) ?_
                  refine m_k1 (t26_skip (m := (up (up (up (up (up m 55 14 (p + 1)) 55 14 (p + 1 + 1)) 63 (3 * ((ps.length : Int))).toNat (t (p + 1) - 48)) 55 15 (p + 1 + 1)) 63 ((3 * ((ps.length : Int))) + 1).toNat (0))) (a := 97) (b := 112) (f := 97) (p := p + 1 + 1) (ln := ln) rfl (by omega) (by omega) hM.1 (by omega) (by omega) (by show 48 ≤ 97 ∧ 97 ≤ 65535; omega) (by decide) (by decide) (g := p + 1 + 1) rfl (by omega) (by omega)) hw5 hm5 rfl rfl rfl (m_ar so55 hw5 rfl) rfl (fun hc6 hw6 hm6 => ?_)
                  refine m_ias sa63 rfl hw6 hm6 (by omega) (by omega) (by decide) (by decide) (fun hc7 hw7 hm7 => ?_)
                  refine f_aln 1 rfl hL1 rfl ?_
                  refine f_s [.ref 55, .ref 55] rfl rfl ?_
                  refine m_gfi so55 ((ps.length : Int)) rfl hw7 hm7 rfl hO.2.1 ?_
                  refine f_s [fi (1), fi ((ps.length : Int)), .ref 55] rfl rfl ?_
                  refine f_iadd rfl ?_
                  refine m_pf so55 rfl hw7 hm7 rfl rfl (by omega) (fun hc8 hw8 hm8 => ?_)
                  refine f_goto rfl ?_
                  refine f_aln 1 rfl hL1 rfl ?_
                  refine m_gfi so55 (p + 1 + 1) rfl hw8 hm8 rfl rfl ?_
                  refine f_bipush (n := -9) rfl (by decide) ?_
                  refine f_ic rfl (by omega) (by omega) (fun _ => ?_) (fun c_9 => absurd (show ¬ (p + 1 + 1 : Int) = (-9 : Int) from (by omega)) c_9)
                  refine f_aln 1 rfl hL1 rfl ?_
                  refine m_gfi so55 (p + 1 + 1) rfl hw8 hm8 rfl rfl ?_
                  have e : pr ln t (n + 1) p ns ps = (p + 1 + 1, ns, ps) := by rw [pr_s, if_neg (by omega), if_neg hN, if_pos hP, if_neg (by omega), hFv]
                  rw [e]
                  exact f_ret1 rfl ⟨hw8, by rfl, fun z => absurd z (by show ¬ p + 1 + 1 = -9; omega)⟩
                · have x2 : m 64 (p + 1 + 1).toNat = t (p + 2) := by rw [show p + 1 + 1 = p + 2 by omega]; exact hM.2.2.1 (p + 2) (by omega) (by omega)
                  have y2 := hM.2.2.2.1 (p + 2)
                  by_cases b2 : t (p + 1) ≤ t (p + 2) ∧ t (p + 2) ≤ 57
                  · have i2 : isW ln t (p + 2) (t (p + 1)) 57 = false := decide_eq_false (by omega)
                    by_cases c3 : ln ≤ p + 3
                    · have i3 : isW ln t (p + 3) 97 112 = false := decide_eq_false (by omega)
                      have eF : pF ln t p = p + 1 + 1 + 1 := by unfold pF; rw [i1, i2, i3, if_neg (by decide), if_neg (by decide), if_neg (by decide), if_pos (by omega)]; omega
                      have hFn : ¬ pF ln t p = -9 := by omega
                      have hFv : (if pF ln t p = -9 then pr ln t n (p + 4) ns (ps ++ [(t (p + 1) - 48, t (p + 2) - 48, t (p + 3) - 97)]) else (pF ln t p, ns, ps)) = (p + 1 + 1 + 1, ns, ps) := by rw [if_neg hFn, eF]
                      have ht := hM.2.2.2.1 p
                      refine f_aln 0 rfl hL rfl ?_
                      refine m_gfr so55 rfl hw rfl (by decide) ?_
                      refine f_aln 0 rfl hL rfl ?_
                      refine m_gfi so55 (p) rfl hw hm rfl h14 ?_
                      refine m_ia sa64 (t p) rfl hw hm (by omega) (by omega) (by decide) (hM.2.2.1 p (by omega) (by omega)) ?_
                      refine f_bipush (n := 78) rfl (by decide) ?_
                      refine f_ic rfl (by omega) (by omega) (fun _ => ?_) (fun c_9 => absurd (show ¬ (t p : Int) = (78 : Int) from hN) c_9)
                      refine f_aln 0 rfl hL rfl ?_
                      refine m_gfr so55 rfl hw rfl (by decide) ?_
                      refine f_aln 0 rfl hL rfl ?_
                      refine m_gfi so55 (p) rfl hw hm rfl h14 ?_
                      refine m_ia sa64 (t p) rfl hw hm (by omega) (by omega) (by decide) (hM.2.2.1 p (by omega) (by omega)) ?_
                      refine f_bipush (n := 80) rfl (by decide) ?_
                      refine f_ic rfl (by omega) (by omega) (fun c_9 => absurd (show ¬ (t p : Int) = (80 : Int) from c_9) (fun z => z hP)) (fun _ => ?_)
                      refine f_aln 0 rfl hL rfl ?_
                      refine m_gfi so55 ((ps.length : Int)) rfl hw hm rfl hO.2.1 ?_
                      refine f_s [fi (5), fi ((ps.length : Int))] rfl rfl ?_
                      refine f_ic rfl (by omega) (by omega) (fun c_9 => absurd (show (5 : Int) ≤ ((ps.length : Int) : Int) from c_9) (by omega)) (fun _ => ?_)
                      refine f_aln 0 rfl hL rfl ?_
                      refine f_s [.ref 55, .ref 55] rfl rfl ?_
                      refine m_gfi so55 (p) rfl hw hm rfl h14 ?_
                      refine f_s [fi (1), fi (p), .ref 55] rfl rfl ?_
                      refine f_iadd rfl ?_
                      refine m_pf so55 rfl hw hm rfl rfl (by omega) (fun hc1 hw1 hm1 => ?_)
                      refine f_aln 0 rfl hL rfl ?_
                      refine f_bipush (n := 48) rfl (by decide) ?_
                      refine f_bipush (n := 57) rfl (by decide) ?_
                      refine f_bipush (n := 48) rfl (by decide) ?_
                      refine m_k1 (t26_ok (m := (up m 55 14 (p + 1))) (a := 48) (b := 57) (f := 48) (p := p + 1) (ln := ln) rfl (by omega) (by omega) hM.1 (by omega) (by omega) (by show 48 ≤ 48 ∧ 48 ≤ 65535; omega) (by decide) (by decide) h15 (by omega) (v := t (p + 1)) (x1) (by omega) (by omega)) hw1 hm1 rfl rfl rfl (m_ar so55 hw1 rfl) rfl (fun hc2 hw2 hm2 => ?_)
                      refine f_istn [(1, fi (t (p + 1) - 48)), (0, .ref 55)] rfl (by decide) hL rfl (fun L1 hL1 => ?_)
                      refine f_aln 1 rfl hL1 rfl ?_
                      refine m_gfr so55 rfl hw2 rfl (by decide) ?_
                      refine f_s [fi (3), .ref 63] rfl rfl ?_
                      refine f_aln 1 rfl hL1 rfl ?_
                      refine m_gfi so55 ((ps.length : Int)) rfl hw2 hm2 rfl hO.2.1 ?_
                      refine f_imul rfl ?_
                      refine f_iln 0 rfl hL1 rfl ?_
                      refine m_ias sa63 rfl hw2 hm2 (by omega) (by omega) (by decide) (by omega) (fun hc3 hw3 hm3 => ?_)
                      refine f_aln 1 rfl hL1 rfl ?_
                      refine m_gfr so55 rfl hw3 rfl (by decide) ?_
                      refine f_s [fi (3), .ref 63] rfl rfl ?_
                      refine f_aln 1 rfl hL1 rfl ?_
                      refine m_gfi so55 ((ps.length : Int)) rfl hw3 hm3 rfl hO.2.1 ?_
                      refine f_imul rfl ?_
                      refine f_s [fi (1), fi (3 * ((ps.length : Int))), .ref 63] rfl rfl ?_
                      refine f_iadd rfl ?_
                      refine f_aln 1 rfl hL1 rfl ?_
                      refine f_bipush (n := 48) rfl (by decide) ?_
                      refine f_iln 0 rfl hL1 rfl ?_
                      refine f_iadd rfl ?_
                      refine f_bipush (n := 57) rfl (by decide) ?_
                      refine f_bipush (n := 48) rfl (by decide) ?_
                      refine m_k1 (t26_ok (m := (up (up (up m 55 14 (p + 1)) 55 14 (p + 1 + 1)) 63 (3 * ((ps.length : Int))).toNat (t (p + 1) - 48))) (a := 48 + (t (p + 1) - 48)) (b := 57) (f := 48) (p := p + 1 + 1) (ln := ln) rfl (by omega) (by omega) hM.1 (by omega) (by omega) (by show 48 ≤ 48 + (t (p + 1) - 48) ∧ 48 + (t (p + 1) - 48) ≤ 65535; omega) (by decide) (by decide) h15 (by omega) (v := t (p + 2)) (x2) (by omega) (by omega)) hw3 hm3 rfl rfl rfl (m_ar so55 hw3 rfl) rfl (fun hc4 hw4 hm4 => ?_)
                      refine m_ias sa63 rfl hw4 hm4 (by omega) (by omega) (by decide) (by omega) (fun hc5 hw5 hm5 => ?_)
                      refine f_aln 1 rfl hL1 rfl ?_
                      refine m_gfr so55 rfl hw5 rfl (by decide) ?_
                      refine f_s [fi (3), .ref 63] rfl rfl ?_
                      refine f_aln 1 rfl hL1 rfl ?_
                      refine m_gfi so55 ((ps.length : Int)) rfl hw5 hm5 rfl hO.2.1 ?_
                      refine f_imul rfl ?_
                      refine f_s [fi (2), fi (3 * ((ps.length : Int))), .ref 63] rfl rfl ?_
                      refine f_iadd rfl ?_
                      refine f_aln 1 rfl hL1 rfl ?_
                      refine f_bipush (n := 97) rfl (by decide) ?_
                      refine f_bipush (n := 112) rfl (by decide) ?_
                      refine f_bipush (n := 97) rfl (by decide) ?_
                      refine m_k1 (t26_end (m := (up (up (up (up (up m 55 14 (p + 1)) 55 14 (p + 1 + 1)) 63 (3 * ((ps.length : Int))).toNat (t (p + 1) - 48)) 55 14 (p + 1 + 1 + 1)) 63 ((3 * ((ps.length : Int))) + 1).toNat (t (p + 2) - 48))) (a := 97) (b := 112) (f := 97) (p := p + 1 + 1 + 1) (ln := ln) rfl (by omega) (by omega) hM.1 (by omega) (by omega) (by show 48 ≤ 97 ∧ 97 ≤ 65535; omega) (by decide) (by decide) h15 (by omega)) hw5 hm5 rfl rfl rfl (m_ar so55 hw5 rfl) rfl (fun hc6 hw6 hm6 => ?_)
                      refine m_ias sa63 rfl hw6 hm6 (by omega) (by omega) (by decide) (by decide) (fun hc7 hw7 hm7 => ?_)
                      refine f_aln 1 rfl hL1 rfl ?_
                      refine f_s [.ref 55, .ref 55] rfl rfl ?_
                      refine m_gfi so55 ((ps.length : Int)) rfl hw7 hm7 rfl hO.2.1 ?_
                      refine f_s [fi (1), fi ((ps.length : Int)), .ref 55] rfl rfl ?_
                      refine f_iadd rfl ?_
                      refine m_pf so55 rfl hw7 hm7 rfl rfl (by omega) (fun hc8 hw8 hm8 => ?_)
                      refine f_goto rfl ?_
                      refine f_aln 1 rfl hL1 rfl ?_
                      refine m_gfi so55 (p + 1 + 1 + 1) rfl hw8 hm8 rfl rfl ?_
                      refine f_bipush (n := -9) rfl (by decide) ?_
                      refine f_ic rfl (by omega) (by omega) (fun _ => ?_) (fun c_9 => absurd (show ¬ (p + 1 + 1 + 1 : Int) = (-9 : Int) from (by omega)) c_9)
                      refine f_aln 1 rfl hL1 rfl ?_
                      refine m_gfi so55 (p + 1 + 1 + 1) rfl hw8 hm8 rfl rfl ?_
                      have e : pr ln t (n + 1) p ns ps = (p + 1 + 1 + 1, ns, ps) := by rw [pr_s, if_neg (by omega), if_neg hN, if_pos hP, if_neg (by omega), hFv]
                      rw [e]
                      exact f_ret1 rfl ⟨hw8, by rfl, fun z => absurd z (by show ¬ p + 1 + 1 + 1 = -9; omega)⟩
                    · have x3 : m 64 (p + 1 + 1 + 1).toNat = t (p + 3) := by rw [show p + 1 + 1 + 1 = p + 3 by omega]; exact hM.2.2.1 (p + 3) (by omega) (by omega)
                      have y3 := hM.2.2.2.1 (p + 3)
                      by_cases b3 : 97 ≤ t (p + 3) ∧ t (p + 3) ≤ 112
                      · have i3 : isW ln t (p + 3) 97 112 = false := decide_eq_false (by omega)
                        have hFv : pF ln t p = -9 := by unfold pF; rw [i1, i2, i3, if_neg (by decide), if_neg (by decide), if_neg (by decide), if_neg (by omega)]
                        have ht := hM.2.2.2.1 p
                        refine f_aln 0 rfl hL rfl ?_
                        refine m_gfr so55 rfl hw rfl (by decide) ?_
                        refine f_aln 0 rfl hL rfl ?_
                        refine m_gfi so55 (p) rfl hw hm rfl h14 ?_
                        refine m_ia sa64 (t p) rfl hw hm (by omega) (by omega) (by decide) (hM.2.2.1 p (by omega) (by omega)) ?_
                        refine f_bipush (n := 78) rfl (by decide) ?_
                        refine f_ic rfl (by omega) (by omega) (fun _ => ?_) (fun c_9 => absurd (show ¬ (t p : Int) = (78 : Int) from hN) c_9)
                        refine f_aln 0 rfl hL rfl ?_
                        refine m_gfr so55 rfl hw rfl (by decide) ?_
                        refine f_aln 0 rfl hL rfl ?_
                        refine m_gfi so55 (p) rfl hw hm rfl h14 ?_
                        refine m_ia sa64 (t p) rfl hw hm (by omega) (by omega) (by decide) (hM.2.2.1 p (by omega) (by omega)) ?_
                        refine f_bipush (n := 80) rfl (by decide) ?_
                        refine f_ic rfl (by omega) (by omega) (fun c_9 => absurd (show ¬ (t p : Int) = (80 : Int) from c_9) (fun z => z hP)) (fun _ => ?_)
                        refine f_aln 0 rfl hL rfl ?_
                        refine m_gfi so55 ((ps.length : Int)) rfl hw hm rfl hO.2.1 ?_
                        refine f_s [fi (5), fi ((ps.length : Int))] rfl rfl ?_
                        refine f_ic rfl (by omega) (by omega) (fun c_9 => absurd (show (5 : Int) ≤ ((ps.length : Int) : Int) from c_9) (by omega)) (fun _ => ?_)
                        refine f_aln 0 rfl hL rfl ?_
                        refine f_s [.ref 55, .ref 55] rfl rfl ?_
                        refine m_gfi so55 (p) rfl hw hm rfl h14 ?_
                        refine f_s [fi (1), fi (p), .ref 55] rfl rfl ?_
                        refine f_iadd rfl ?_
                        refine m_pf so55 rfl hw hm rfl rfl (by omega) (fun hc1 hw1 hm1 => ?_)
                        refine f_aln 0 rfl hL rfl ?_
                        refine f_bipush (n := 48) rfl (by decide) ?_
                        refine f_bipush (n := 57) rfl (by decide) ?_
                        refine f_bipush (n := 48) rfl (by decide) ?_
                        refine m_k1 (t26_ok (m := (up m 55 14 (p + 1))) (a := 48) (b := 57) (f := 48) (p := p + 1) (ln := ln) rfl (by omega) (by omega) hM.1 (by omega) (by omega) (by show 48 ≤ 48 ∧ 48 ≤ 65535; omega) (by decide) (by decide) h15 (by omega) (v := t (p + 1)) (x1) (by omega) (by omega)) hw1 hm1 rfl rfl rfl (m_ar so55 hw1 rfl) rfl (fun hc2 hw2 hm2 => ?_)
                        refine f_istn [(1, fi (t (p + 1) - 48)), (0, .ref 55)] rfl (by decide) hL rfl (fun L1 hL1 => ?_)
                        refine f_aln 1 rfl hL1 rfl ?_
                        refine m_gfr so55 rfl hw2 rfl (by decide) ?_
                        refine f_s [fi (3), .ref 63] rfl rfl ?_
                        refine f_aln 1 rfl hL1 rfl ?_
                        refine m_gfi so55 ((ps.length : Int)) rfl hw2 hm2 rfl hO.2.1 ?_
                        refine f_imul rfl ?_
                        refine f_iln 0 rfl hL1 rfl ?_
                        refine m_ias sa63 rfl hw2 hm2 (by omega) (by omega) (by decide) (by omega) (fun hc3 hw3 hm3 => ?_)
                        refine f_aln 1 rfl hL1 rfl ?_
                        refine m_gfr so55 rfl hw3 rfl (by decide) ?_
                        refine f_s [fi (3), .ref 63] rfl rfl ?_
                        refine f_aln 1 rfl hL1 rfl ?_
                        refine m_gfi so55 ((ps.length : Int)) rfl hw3 hm3 rfl hO.2.1 ?_
                        refine f_imul rfl ?_
                        refine f_s [fi (1), fi (3 * ((ps.length : Int))), .ref 63] rfl rfl ?_
                        refine f_iadd rfl ?_
                        refine f_aln 1 rfl hL1 rfl ?_
                        refine f_bipush (n := 48) rfl (by decide) ?_
                        refine f_iln 0 rfl hL1 rfl ?_
                        refine f_iadd rfl ?_
                        refine f_bipush (n := 57) rfl (by decide) ?_
                        refine f_bipush (n := 48) rfl (by decide) ?_
                        refine m_k1 (t26_ok (m := (up (up (up m 55 14 (p + 1)) 55 14 (p + 1 + 1)) 63 (3 * ((ps.length : Int))).toNat (t (p + 1) - 48))) (a := 48 + (t (p + 1) - 48)) (b := 57) (f := 48) (p := p + 1 + 1) (ln := ln) rfl (by omega) (by omega) hM.1 (by omega) (by omega) (by show 48 ≤ 48 + (t (p + 1) - 48) ∧ 48 + (t (p + 1) - 48) ≤ 65535; omega) (by decide) (by decide) h15 (by omega) (v := t (p + 2)) (x2) (by omega) (by omega)) hw3 hm3 rfl rfl rfl (m_ar so55 hw3 rfl) rfl (fun hc4 hw4 hm4 => ?_)
                        refine m_ias sa63 rfl hw4 hm4 (by omega) (by omega) (by decide) (by omega) (fun hc5 hw5 hm5 => ?_)
                        refine f_aln 1 rfl hL1 rfl ?_
                        refine m_gfr so55 rfl hw5 rfl (by decide) ?_
                        refine f_s [fi (3), .ref 63] rfl rfl ?_
                        refine f_aln 1 rfl hL1 rfl ?_
                        refine m_gfi so55 ((ps.length : Int)) rfl hw5 hm5 rfl hO.2.1 ?_
                        refine f_imul rfl ?_
                        refine f_s [fi (2), fi (3 * ((ps.length : Int))), .ref 63] rfl rfl ?_
                        refine f_iadd rfl ?_
                        refine f_aln 1 rfl hL1 rfl ?_
                        refine f_bipush (n := 97) rfl (by decide) ?_
                        refine f_bipush (n := 112) rfl (by decide) ?_
                        refine f_bipush (n := 97) rfl (by decide) ?_
                        refine m_k1 (t26_ok (m := (up (up (up (up (up m 55 14 (p + 1)) 55 14 (p + 1 + 1)) 63 (3 * ((ps.length : Int))).toNat (t (p + 1) - 48)) 55 14 (p + 1 + 1 + 1)) 63 ((3 * ((ps.length : Int))) + 1).toNat (t (p + 2) - 48))) (a := 97) (b := 112) (f := 97) (p := p + 1 + 1 + 1) (ln := ln) rfl (by omega) (by omega) hM.1 (by omega) (by omega) (by show 48 ≤ 97 ∧ 97 ≤ 65535; omega) (by decide) (by decide) h15 (by omega) (v := t (p + 3)) (x3) (by omega) (by omega)) hw5 hm5 rfl rfl rfl (m_ar so55 hw5 rfl) rfl (fun hc6 hw6 hm6 => ?_)
                        refine m_ias sa63 rfl hw6 hm6 (by omega) (by omega) (by decide) (by omega) (fun hc7 hw7 hm7 => ?_)
                        refine f_aln 1 rfl hL1 rfl ?_
                        refine f_s [.ref 55, .ref 55] rfl rfl ?_
                        refine m_gfi so55 ((ps.length : Int)) rfl hw7 hm7 rfl hO.2.1 ?_
                        refine f_s [fi (1), fi ((ps.length : Int)), .ref 55] rfl rfl ?_
                        refine f_iadd rfl ?_
                        refine m_pf so55 rfl hw7 hm7 rfl rfl (by omega) (fun hc8 hw8 hm8 => ?_)
                        refine f_goto rfl ?_
                        have hO2 : pOK (up (up (up (up (up (up (up (up m 55 14 (p + 1)) 55 14 (p + 1 + 1)) 63 (3 * ((ps.length : Int))).toNat (t (p + 1) - 48)) 55 14 (p + 1 + 1 + 1)) 63 ((3 * ((ps.length : Int))) + 1).toNat (t (p + 2) - 48)) 55 14 (p + 1 + 1 + 1 + 1)) 63 ((3 * ((ps.length : Int))) + 2).toNat (t (p + 3) - 97)) 55 11 (((ps.length : Int)) + 1)) (ns) (ps ++ [(t (p + 1) - 48, t (p + 2) - 48, t (p + 3) - 97)]) := pOK_p hO rfl rfl (fun _ => rfl) (fun i => by
                          have e1 : (3 * (ps.length : Int)).toNat = 3 * ps.length := by omega
                          have e2 : ((3 * (ps.length : Int)) + 1).toNat = 3 * ps.length + 1 := by omega
                          have e3 : ((3 * (ps.length : Int)) + 2).toNat = 3 * ps.length + 2 := by omega
                          simp [up, e1, e2, e3])
                        have e14 : (up (up (up (up (up (up (up (up m 55 14 (p + 1)) 55 14 (p + 1 + 1)) 63 (3 * ((ps.length : Int))).toNat (t (p + 1) - 48)) 55 14 (p + 1 + 1 + 1)) 63 ((3 * ((ps.length : Int))) + 1).toNat (t (p + 2) - 48)) 55 14 (p + 1 + 1 + 1 + 1)) 63 ((3 * ((ps.length : Int))) + 2).toNat (t (p + 3) - 97)) 55 11 (((ps.length : Int)) + 1)) 55 14 = p + 4 := by show p + 1 + 1 + 1 + 1 = _; omega
                        have := ih (p + 4) (ns) (ps ++ [(t (p + 1) - 48, t (p + 2) - 48, t (p + 3) - 97)]) (up (up (up (up (up (up (up (up m 55 14 (p + 1)) 55 14 (p + 1 + 1)) 63 (3 * ((ps.length : Int))).toNat (t (p + 1) - 48)) 55 14 (p + 1 + 1 + 1)) 63 ((3 * ((ps.length : Int))) + 1).toNat (t (p + 2) - 48)) 55 14 (p + 1 + 1 + 1 + 1)) 63 ((3 * ((ps.length : Int))) + 2).toNat (t (p + 3) - 97)) 55 11 (((ps.length : Int)) + 1)) hc8 _ hw8 hm8 e14 h15 ⟨hM.1, hM.2.1, hM.2.2.1, hM.2.2.2⟩ hO2 (by omega) (by omega) (by omega) (by omega) (by rw [List.length_append]; show ps.length + 1 ≤ 5; omega) (hL1.sel [1] rfl)
                        rw [pr_s, if_neg (by omega), if_neg hN, if_pos hP, if_neg (by omega), if_pos hFv]
                        exact this
                      · have i3 : isW ln t (p + 3) 97 112 = true := decide_eq_true (by omega)
                        have eF : pF ln t p = p + 1 + 1 + 1 := by unfold pF; rw [i1, i2, i3, if_neg (by decide), if_neg (by decide), if_pos rfl]; omega
                        have hFn : ¬ pF ln t p = -9 := by omega
                        have hFv : (if pF ln t p = -9 then pr ln t n (p + 4) ns (ps ++ [(t (p + 1) - 48, t (p + 2) - 48, t (p + 3) - 97)]) else (pF ln t p, ns, ps)) = (p + 1 + 1 + 1, ns, ps) := by rw [if_neg hFn, eF]
                        have ht := hM.2.2.2.1 p
                        refine f_aln 0 rfl hL rfl ?_
                        refine m_gfr so55 rfl hw rfl (by decide) ?_
                        refine f_aln 0 rfl hL rfl ?_
                        refine m_gfi so55 (p) rfl hw hm rfl h14 ?_
                        refine m_ia sa64 (t p) rfl hw hm (by omega) (by omega) (by decide) (hM.2.2.1 p (by omega) (by omega)) ?_
                        refine f_bipush (n := 78) rfl (by decide) ?_
                        refine f_ic rfl (by omega) (by omega) (fun _ => ?_) (fun c_9 => absurd (show ¬ (t p : Int) = (78 : Int) from hN) c_9)
                        refine f_aln 0 rfl hL rfl ?_
                        refine m_gfr so55 rfl hw rfl (by decide) ?_
                        refine f_aln 0 rfl hL rfl ?_
                        refine m_gfi so55 (p) rfl hw hm rfl h14 ?_
                        refine m_ia sa64 (t p) rfl hw hm (by omega) (by omega) (by decide) (hM.2.2.1 p (by omega) (by omega)) ?_
                        refine f_bipush (n := 80) rfl (by decide) ?_
                        refine f_ic rfl (by omega) (by omega) (fun c_9 => absurd (show ¬ (t p : Int) = (80 : Int) from c_9) (fun z => z hP)) (fun _ => ?_)
                        refine f_aln 0 rfl hL rfl ?_
                        refine m_gfi so55 ((ps.length : Int)) rfl hw hm rfl hO.2.1 ?_
                        refine f_s [fi (5), fi ((ps.length : Int))] rfl rfl ?_
                        refine f_ic rfl (by omega) (by omega) (fun c_9 => absurd (show (5 : Int) ≤ ((ps.length : Int) : Int) from c_9) (by omega)) (fun _ => ?_)
                        refine f_aln 0 rfl hL rfl ?_
                        refine f_s [.ref 55, .ref 55] rfl rfl ?_
                        refine m_gfi so55 (p) rfl hw hm rfl h14 ?_
                        refine f_s [fi (1), fi (p), .ref 55] rfl rfl ?_
                        refine f_iadd rfl ?_
                        refine m_pf so55 rfl hw hm rfl rfl (by omega) (fun hc1 hw1 hm1 => ?_)
                        refine f_aln 0 rfl hL rfl ?_
                        refine f_bipush (n := 48) rfl (by decide) ?_
                        refine f_bipush (n := 57) rfl (by decide) ?_
                        refine f_bipush (n := 48) rfl (by decide) ?_
                        refine m_k1 (t26_ok (m := (up m 55 14 (p + 1))) (a := 48) (b := 57) (f := 48) (p := p + 1) (ln := ln) rfl (by omega) (by omega) hM.1 (by omega) (by omega) (by show 48 ≤ 48 ∧ 48 ≤ 65535; omega) (by decide) (by decide) h15 (by omega) (v := t (p + 1)) (x1) (by omega) (by omega)) hw1 hm1 rfl rfl rfl (m_ar so55 hw1 rfl) rfl (fun hc2 hw2 hm2 => ?_)
                        refine f_istn [(1, fi (t (p + 1) - 48)), (0, .ref 55)] rfl (by decide) hL rfl (fun L1 hL1 => ?_)
                        refine f_aln 1 rfl hL1 rfl ?_
                        refine m_gfr so55 rfl hw2 rfl (by decide) ?_
                        refine f_s [fi (3), .ref 63] rfl rfl ?_
                        refine f_aln 1 rfl hL1 rfl ?_
                        refine m_gfi so55 ((ps.length : Int)) rfl hw2 hm2 rfl hO.2.1 ?_
                        refine f_imul rfl ?_
                        refine f_iln 0 rfl hL1 rfl ?_
                        refine m_ias sa63 rfl hw2 hm2 (by omega) (by omega) (by decide) (by omega) (fun hc3 hw3 hm3 => ?_)
                        refine f_aln 1 rfl hL1 rfl ?_
                        refine m_gfr so55 rfl hw3 rfl (by decide) ?_
                        refine f_s [fi (3), .ref 63] rfl rfl ?_
                        refine f_aln 1 rfl hL1 rfl ?_
                        refine m_gfi so55 ((ps.length : Int)) rfl hw3 hm3 rfl hO.2.1 ?_
                        refine f_imul rfl ?_
                        refine f_s [fi (1), fi (3 * ((ps.length : Int))), .ref 63] rfl rfl ?_
                        refine f_iadd rfl ?_
                        refine f_aln 1 rfl hL1 rfl ?_
                        refine f_bipush (n := 48) rfl (by decide) ?_
                        refine f_iln 0 rfl hL1 rfl ?_
                        refine f_iadd rfl ?_
                        refine f_bipush (n := 57) rfl (by decide) ?_
                        refine f_bipush (n := 48) rfl (by decide) ?_
                        refine m_k1 (t26_ok (m := (up (up (up m 55 14 (p + 1)) 55 14 (p + 1 + 1)) 63 (3 * ((ps.length : Int))).toNat (t (p + 1) - 48))) (a := 48 + (t (p + 1) - 48)) (b := 57) (f := 48) (p := p + 1 + 1) (ln := ln) rfl (by omega) (by omega) hM.1 (by omega) (by omega) (by show 48 ≤ 48 + (t (p + 1) - 48) ∧ 48 + (t (p + 1) - 48) ≤ 65535; omega) (by decide) (by decide) h15 (by omega) (v := t (p + 2)) (x2) (by omega) (by omega)) hw3 hm3 rfl rfl rfl (m_ar so55 hw3 rfl) rfl (fun hc4 hw4 hm4 => ?_)
                        refine m_ias sa63 rfl hw4 hm4 (by omega) (by omega) (by decide) (by omega) (fun hc5 hw5 hm5 => ?_)
                        refine f_aln 1 rfl hL1 rfl ?_
                        refine m_gfr so55 rfl hw5 rfl (by decide) ?_
                        refine f_s [fi (3), .ref 63] rfl rfl ?_
                        refine f_aln 1 rfl hL1 rfl ?_
                        refine m_gfi so55 ((ps.length : Int)) rfl hw5 hm5 rfl hO.2.1 ?_
                        refine f_imul rfl ?_
                        refine f_s [fi (2), fi (3 * ((ps.length : Int))), .ref 63] rfl rfl ?_
                        refine f_iadd rfl ?_
                        refine f_aln 1 rfl hL1 rfl ?_
                        refine f_bipush (n := 97) rfl (by decide) ?_
                        refine f_bipush (n := 112) rfl (by decide) ?_
                        refine f_bipush (n := 97) rfl (by decide) ?_
                        refine m_k1 (t26_bad (m := (up (up (up (up (up m 55 14 (p + 1)) 55 14 (p + 1 + 1)) 63 (3 * ((ps.length : Int))).toNat (t (p + 1) - 48)) 55 14 (p + 1 + 1 + 1)) 63 ((3 * ((ps.length : Int))) + 1).toNat (t (p + 2) - 48))) (a := 97) (b := 112) (f := 97) (p := p + 1 + 1 + 1) (ln := ln) rfl (by omega) (by omega) hM.1 (by omega) (by omega) (by show 48 ≤ 97 ∧ 97 ≤ 65535; omega) (by decide) (by decide) h15 (by omega) (v := t (p + 3)) (x3) (by omega) (by omega)) hw5 hm5 rfl rfl rfl (m_ar so55 hw5 rfl) rfl (fun hc6 hw6 hm6 => ?_)
                        refine m_ias sa63 rfl hw6 hm6 (by omega) (by omega) (by decide) (by decide) (fun hc7 hw7 hm7 => ?_)
                        refine f_aln 1 rfl hL1 rfl ?_
                        refine f_s [.ref 55, .ref 55] rfl rfl ?_
                        refine m_gfi so55 ((ps.length : Int)) rfl hw7 hm7 rfl hO.2.1 ?_
                        refine f_s [fi (1), fi ((ps.length : Int)), .ref 55] rfl rfl ?_
                        refine f_iadd rfl ?_
                        refine m_pf so55 rfl hw7 hm7 rfl rfl (by omega) (fun hc8 hw8 hm8 => ?_)
                        refine f_goto rfl ?_
                        refine f_aln 1 rfl hL1 rfl ?_
                        refine m_gfi so55 (p + 1 + 1 + 1) rfl hw8 hm8 rfl rfl ?_
                        refine f_bipush (n := -9) rfl (by decide) ?_
                        refine f_ic rfl (by omega) (by omega) (fun _ => ?_) (fun c_9 => absurd (show ¬ (p + 1 + 1 + 1 : Int) = (-9 : Int) from (by omega)) c_9)
                        refine f_aln 1 rfl hL1 rfl ?_
                        refine m_gfi so55 (p + 1 + 1 + 1) rfl hw8 hm8 rfl rfl ?_
                        have e : pr ln t (n + 1) p ns ps = (p + 1 + 1 + 1, ns, ps) := by rw [pr_s, if_neg (by omega), if_neg hN, if_pos hP, if_neg (by omega), hFv]
                        rw [e]
                        exact f_ret1 rfl ⟨hw8, by rfl, fun z => absurd z (by show ¬ p + 1 + 1 + 1 = -9; omega)⟩
                  · have i2 : isW ln t (p + 2) (t (p + 1)) 57 = true := decide_eq_true (by omega)
                    have eF : pF ln t p = p + 1 + 1 := by unfold pF; rw [i1, i2, if_neg (by decide), if_pos rfl]; omega
                    have hFn : ¬ pF ln t p = -9 := by omega
                    have hFv : (if pF ln t p = -9 then pr ln t n (p + 4) ns (ps ++ [(t (p + 1) - 48, t (p + 2) - 48, t (p + 3) - 97)]) else (pF ln t p, ns, ps)) = (p + 1 + 1, ns, ps) := by rw [if_neg hFn, eF]
                    have ht := hM.2.2.2.1 p
                    refine f_aln 0 rfl hL rfl ?_
                    refine m_gfr so55 rfl hw rfl (by decide) ?_
                    refine f_aln 0 rfl hL rfl ?_
                    refine m_gfi so55 (p) rfl hw hm rfl h14 ?_
                    refine m_ia sa64 (t p) rfl hw hm (by omega) (by omega) (by decide) (hM.2.2.1 p (by omega) (by omega)) ?_
                    refine f_bipush (n := 78) rfl (by decide) ?_
                    refine f_ic rfl (by omega) (by omega) (fun _ => ?_) (fun c_9 => absurd (show ¬ (t p : Int) = (78 : Int) from hN) c_9)
                    refine f_aln 0 rfl hL rfl ?_
                    refine m_gfr so55 rfl hw rfl (by decide) ?_
                    refine f_aln 0 rfl hL rfl ?_
                    refine m_gfi so55 (p) rfl hw hm rfl h14 ?_
                    refine m_ia sa64 (t p) rfl hw hm (by omega) (by omega) (by decide) (hM.2.2.1 p (by omega) (by omega)) ?_
                    refine f_bipush (n := 80) rfl (by decide) ?_
                    refine f_ic rfl (by omega) (by omega) (fun c_9 => absurd (show ¬ (t p : Int) = (80 : Int) from c_9) (fun z => z hP)) (fun _ => ?_)
                    refine f_aln 0 rfl hL rfl ?_
                    refine m_gfi so55 ((ps.length : Int)) rfl hw hm rfl hO.2.1 ?_
                    refine f_s [fi (5), fi ((ps.length : Int))] rfl rfl ?_
                    refine f_ic rfl (by omega) (by omega) (fun c_9 => absurd (show (5 : Int) ≤ ((ps.length : Int) : Int) from c_9) (by omega)) (fun _ => ?_)
                    refine f_aln 0 rfl hL rfl ?_
                    refine f_s [.ref 55, .ref 55] rfl rfl ?_
                    refine m_gfi so55 (p) rfl hw hm rfl h14 ?_
                    refine f_s [fi (1), fi (p), .ref 55] rfl rfl ?_
                    refine f_iadd rfl ?_
                    refine m_pf so55 rfl hw hm rfl rfl (by omega) (fun hc1 hw1 hm1 => ?_)
                    refine f_aln 0 rfl hL rfl ?_
                    refine f_bipush (n := 48) rfl (by decide) ?_
                    refine f_bipush (n := 57) rfl (by decide) ?_
                    refine f_bipush (n := 48) rfl (by decide) ?_
                    refine m_k1 (t26_ok (m := (up m 55 14 (p + 1))) (a := 48) (b := 57) (f := 48) (p := p + 1) (ln := ln) rfl (by omega) (by omega) hM.1 (by omega) (by omega) (by show 48 ≤ 48 ∧ 48 ≤ 65535; omega) (by decide) (by decide) h15 (by omega) (v := t (p + 1)) (x1) (by omega) (by omega)) hw1 hm1 rfl rfl rfl (m_ar so55 hw1 rfl) rfl (fun hc2 hw2 hm2 => ?_)
                    refine f_istn [(1, fi (t (p + 1) - 48)), (0, .ref 55)] rfl (by decide) hL rfl (fun L1 hL1 => ?_)
                    refine f_aln 1 rfl hL1 rfl ?_
                    refine m_gfr so55 rfl hw2 rfl (by decide) ?_
                    refine f_s [fi (3), .ref 63] rfl rfl ?_
                    refine f_aln 1 rfl hL1 rfl ?_
                    refine m_gfi so55 ((ps.length : Int)) rfl hw2 hm2 rfl hO.2.1 ?_
                    refine f_imul rfl ?_
                    refine f_iln 0 rfl hL1 rfl ?_
                    refine m_ias sa63 rfl hw2 hm2 (by omega) (by omega) (by decide) (by omega) (fun hc3 hw3 hm3 => ?_)
                    refine f_aln 1 rfl hL1 rfl ?_
                    refine m_gfr so55 rfl hw3 rfl (by decide) ?_
                    refine f_s [fi (3), .ref 63] rfl rfl ?_
                    refine f_aln 1 rfl hL1 rfl ?_
                    refine m_gfi so55 ((ps.length : Int)) rfl hw3 hm3 rfl hO.2.1 ?_
                    refine f_imul rfl ?_
                    refine f_s [fi (1), fi (3 * ((ps.length : Int))), .ref 63] rfl rfl ?_
                    refine f_iadd rfl ?_
                    refine f_aln 1 rfl hL1 rfl ?_
                    refine f_bipush (n := 48) rfl (by decide) ?_
                    refine f_iln 0 rfl hL1 rfl ?_
                    refine f_iadd rfl ?_
                    refine f_bipush (n := 57) rfl (by decide) ?_
                    refine f_bipush (n := 48) rfl (by decide) ?_
                    refine m_k1 (t26_bad (m := (up (up (up m 55 14 (p + 1)) 55 14 (p + 1 + 1)) 63 (3 * ((ps.length : Int))).toNat (t (p + 1) - 48))) (a := 48 + (t (p + 1) - 48)) (b := 57) (f := 48) (p := p + 1 + 1) (ln := ln) rfl (by omega) (by omega) hM.1 (by omega) (by omega) (by show 48 ≤ 48 + (t (p + 1) - 48) ∧ 48 + (t (p + 1) - 48) ≤ 65535; omega) (by decide) (by decide) h15 (by omega) (v := t (p + 2)) (x2) (by omega) (by omega)) hw3 hm3 rfl rfl rfl (m_ar so55 hw3 rfl) rfl (fun hc4 hw4 hm4 => ?_)
                    refine m_ias sa63 rfl hw4 hm4 (by omega) (by omega) (by decide) (by decide) (fun hc5 hw5 hm5 => ?_)
                    refine f_aln 1 rfl hL1 rfl ?_
                    refine m_gfr so55 rfl hw5 rfl (by decide) ?_
                    refine f_s [fi (3), .ref 63] rfl rfl ?_
                    refine f_aln 1 rfl hL1 rfl ?_
                    refine m_gfi so55 ((ps.length : Int)) rfl hw5 hm5 rfl hO.2.1 ?_
                    refine f_imul rfl ?_
                    refine f_s [fi (2), fi (3 * ((ps.length : Int))), .ref 63] rfl rfl ?_
                    refine f_iadd rfl ?_
                    refine f_aln 1 rfl hL1 rfl ?_
                    refine f_bipush (n := 97) rfl (by decide) ?_
                    refine f_bipush (n := 112) rfl (by decide) ?_
                    refine f_bipush (n := 97) rfl (by decide) ?_
                    refine m_k1 (t26_skip (m := (up (up (up (up (up m 55 14 (p + 1)) 55 14 (p + 1 + 1)) 63 (3 * ((ps.length : Int))).toNat (t (p + 1) - 48)) 55 15 (p + 1 + 1)) 63 ((3 * ((ps.length : Int))) + 1).toNat (0))) (a := 97) (b := 112) (f := 97) (p := p + 1 + 1) (ln := ln) rfl (by omega) (by omega) hM.1 (by omega) (by omega) (by show 48 ≤ 97 ∧ 97 ≤ 65535; omega) (by decide) (by decide) (g := p + 1 + 1) rfl (by omega) (by omega)) hw5 hm5 rfl rfl rfl (m_ar so55 hw5 rfl) rfl (fun hc6 hw6 hm6 => ?_)
                    refine m_ias sa63 rfl hw6 hm6 (by omega) (by omega) (by decide) (by decide) (fun hc7 hw7 hm7 => ?_)
                    refine f_aln 1 rfl hL1 rfl ?_
                    refine f_s [.ref 55, .ref 55] rfl rfl ?_
                    refine m_gfi so55 ((ps.length : Int)) rfl hw7 hm7 rfl hO.2.1 ?_
                    refine f_s [fi (1), fi ((ps.length : Int)), .ref 55] rfl rfl ?_
                    refine f_iadd rfl ?_
                    refine m_pf so55 rfl hw7 hm7 rfl rfl (by omega) (fun hc8 hw8 hm8 => ?_)
                    refine f_goto rfl ?_
                    refine f_aln 1 rfl hL1 rfl ?_
                    refine m_gfi so55 (p + 1 + 1) rfl hw8 hm8 rfl rfl ?_
                    refine f_bipush (n := -9) rfl (by decide) ?_
                    refine f_ic rfl (by omega) (by omega) (fun _ => ?_) (fun c_9 => absurd (show ¬ (p + 1 + 1 : Int) = (-9 : Int) from (by omega)) c_9)
                    refine f_aln 1 rfl hL1 rfl ?_
                    refine m_gfi so55 (p + 1 + 1) rfl hw8 hm8 rfl rfl ?_
                    have e : pr ln t (n + 1) p ns ps = (p + 1 + 1, ns, ps) := by rw [pr_s, if_neg (by omega), if_neg hN, if_pos hP, if_neg (by omega), hFv]
                    rw [e]
                    exact f_ret1 rfl ⟨hw8, by rfl, fun z => absurd z (by show ¬ p + 1 + 1 = -9; omega)⟩
              · have i1 : isW ln t (p + 1) 48 57 = true := decide_eq_true (by omega)
                have eF : pF ln t p = p + 1 := by unfold pF; rw [i1, if_pos rfl]
                have hFn : ¬ pF ln t p = -9 := by omega
                have hFv : (if pF ln t p = -9 then pr ln t n (p + 4) ns (ps ++ [(t (p + 1) - 48, t (p + 2) - 48, t (p + 3) - 97)]) else (pF ln t p, ns, ps)) = (p + 1, ns, ps) := by rw [if_neg hFn, eF]
                have ht := hM.2.2.2.1 p
                refine f_aln 0 rfl hL rfl ?_
                refine m_gfr so55 rfl hw rfl (by decide) ?_
                refine f_aln 0 rfl hL rfl ?_
                refine m_gfi so55 (p) rfl hw hm rfl h14 ?_
                refine m_ia sa64 (t p) rfl hw hm (by omega) (by omega) (by decide) (hM.2.2.1 p (by omega) (by omega)) ?_
                refine f_bipush (n := 78) rfl (by decide) ?_
                refine f_ic rfl (by omega) (by omega) (fun _ => ?_) (fun c_9 => absurd (show ¬ (t p : Int) = (78 : Int) from hN) c_9)
                refine f_aln 0 rfl hL rfl ?_
                refine m_gfr so55 rfl hw rfl (by decide) ?_
                refine f_aln 0 rfl hL rfl ?_
                refine m_gfi so55 (p) rfl hw hm rfl h14 ?_
                refine m_ia sa64 (t p) rfl hw hm (by omega) (by omega) (by decide) (hM.2.2.1 p (by omega) (by omega)) ?_
                refine f_bipush (n := 80) rfl (by decide) ?_
                refine f_ic rfl (by omega) (by omega) (fun c_9 => absurd (show ¬ (t p : Int) = (80 : Int) from c_9) (fun z => z hP)) (fun _ => ?_)
                refine f_aln 0 rfl hL rfl ?_
                refine m_gfi so55 ((ps.length : Int)) rfl hw hm rfl hO.2.1 ?_
                refine f_s [fi (5), fi ((ps.length : Int))] rfl rfl ?_
                refine f_ic rfl (by omega) (by omega) (fun c_9 => absurd (show (5 : Int) ≤ ((ps.length : Int) : Int) from c_9) (by omega)) (fun _ => ?_)
                refine f_aln 0 rfl hL rfl ?_
                refine f_s [.ref 55, .ref 55] rfl rfl ?_
                refine m_gfi so55 (p) rfl hw hm rfl h14 ?_
                refine f_s [fi (1), fi (p), .ref 55] rfl rfl ?_
                refine f_iadd rfl ?_
                refine m_pf so55 rfl hw hm rfl rfl (by omega) (fun hc1 hw1 hm1 => ?_)
                refine f_aln 0 rfl hL rfl ?_
                refine f_bipush (n := 48) rfl (by decide) ?_
                refine f_bipush (n := 57) rfl (by decide) ?_
                refine f_bipush (n := 48) rfl (by decide) ?_
                refine m_k1 (t26_bad (m := (up m 55 14 (p + 1))) (a := 48) (b := 57) (f := 48) (p := p + 1) (ln := ln) rfl (by omega) (by omega) hM.1 (by omega) (by omega) (by show 48 ≤ 48 ∧ 48 ≤ 65535; omega) (by decide) (by decide) h15 (by omega) (v := t (p + 1)) (x1) (by omega) (by omega)) hw1 hm1 rfl rfl rfl (m_ar so55 hw1 rfl) rfl (fun hc2 hw2 hm2 => ?_)
                refine f_istn [(1, fi (0)), (0, .ref 55)] rfl (by decide) hL rfl (fun L1 hL1 => ?_)
                refine f_aln 1 rfl hL1 rfl ?_
                refine m_gfr so55 rfl hw2 rfl (by decide) ?_
                refine f_s [fi (3), .ref 63] rfl rfl ?_
                refine f_aln 1 rfl hL1 rfl ?_
                refine m_gfi so55 ((ps.length : Int)) rfl hw2 hm2 rfl hO.2.1 ?_
                refine f_imul rfl ?_
                refine f_iln 0 rfl hL1 rfl ?_
                refine m_ias sa63 rfl hw2 hm2 (by omega) (by omega) (by decide) (by decide) (fun hc3 hw3 hm3 => ?_)
                refine f_aln 1 rfl hL1 rfl ?_
                refine m_gfr so55 rfl hw3 rfl (by decide) ?_
                refine f_s [fi (3), .ref 63] rfl rfl ?_
                refine f_aln 1 rfl hL1 rfl ?_
                refine m_gfi so55 ((ps.length : Int)) rfl hw3 hm3 rfl hO.2.1 ?_
                refine f_imul rfl ?_
                refine f_s [fi (1), fi (3 * ((ps.length : Int))), .ref 63] rfl rfl ?_
                refine f_iadd rfl ?_
                refine f_aln 1 rfl hL1 rfl ?_
                refine f_bipush (n := 48) rfl (by decide) ?_
                refine f_iln 0 rfl hL1 rfl ?_
                refine f_iadd rfl ?_
                refine f_bipush (n := 57) rfl (by decide) ?_
                refine f_bipush (n := 48) rfl (by decide) ?_
                refine m_k1 (t26_skip (m := (up (up (up m 55 14 (p + 1)) 55 15 (p + 1)) 63 (3 * ((ps.length : Int))).toNat (0))) (a := 48 + 0) (b := 57) (f := 48) (p := p + 1) (ln := ln) rfl (by omega) (by omega) hM.1 (by omega) (by omega) (by show 48 ≤ 48 + 0 ∧ 48 + 0 ≤ 65535; omega) (by decide) (by decide) (g := p + 1) rfl (by omega) (by omega)) hw3 hm3 rfl rfl rfl (m_ar so55 hw3 rfl) rfl (fun hc4 hw4 hm4 => ?_)
                refine m_ias sa63 rfl hw4 hm4 (by omega) (by omega) (by decide) (by decide) (fun hc5 hw5 hm5 => ?_)
                refine f_aln 1 rfl hL1 rfl ?_
                refine m_gfr so55 rfl hw5 rfl (by decide) ?_
                refine f_s [fi (3), .ref 63] rfl rfl ?_
                refine f_aln 1 rfl hL1 rfl ?_
                refine m_gfi so55 ((ps.length : Int)) rfl hw5 hm5 rfl hO.2.1 ?_
                refine f_imul rfl ?_
                refine f_s [fi (2), fi (3 * ((ps.length : Int))), .ref 63] rfl rfl ?_
                refine f_iadd rfl ?_
                refine f_aln 1 rfl hL1 rfl ?_
                refine f_bipush (n := 97) rfl (by decide) ?_
                refine f_bipush (n := 112) rfl (by decide) ?_
                refine f_bipush (n := 97) rfl (by decide) ?_
                refine m_k1 (t26_skip (m := (up (up (up (up (up m 55 14 (p + 1)) 55 15 (p + 1)) 63 (3 * ((ps.length : Int))).toNat (0)) 55 15 (p + 1)) 63 ((3 * ((ps.length : Int))) + 1).toNat (0))) (a := 97) (b := 112) (f := 97) (p := p + 1) (ln := ln) rfl (by omega) (by omega) hM.1 (by omega) (by omega) (by show 48 ≤ 97 ∧ 97 ≤ 65535; omega) (by decide) (by decide) (g := p + 1) rfl (by omega) (by omega)) hw5 hm5 rfl rfl rfl (m_ar so55 hw5 rfl) rfl (fun hc6 hw6 hm6 => ?_)
                refine m_ias sa63 rfl hw6 hm6 (by omega) (by omega) (by decide) (by decide) (fun hc7 hw7 hm7 => ?_)
                refine f_aln 1 rfl hL1 rfl ?_
                refine f_s [.ref 55, .ref 55] rfl rfl ?_
                refine m_gfi so55 ((ps.length : Int)) rfl hw7 hm7 rfl hO.2.1 ?_
                refine f_s [fi (1), fi ((ps.length : Int)), .ref 55] rfl rfl ?_
                refine f_iadd rfl ?_
                refine m_pf so55 rfl hw7 hm7 rfl rfl (by omega) (fun hc8 hw8 hm8 => ?_)
                refine f_goto rfl ?_
                refine f_aln 1 rfl hL1 rfl ?_
                refine m_gfi so55 (p + 1) rfl hw8 hm8 rfl rfl ?_
                refine f_bipush (n := -9) rfl (by decide) ?_
                refine f_ic rfl (by omega) (by omega) (fun _ => ?_) (fun c_9 => absurd (show ¬ (p + 1 : Int) = (-9 : Int) from (by omega)) c_9)
                refine f_aln 1 rfl hL1 rfl ?_
                refine m_gfi so55 (p + 1) rfl hw8 hm8 rfl rfl ?_
                have e : pr ln t (n + 1) p ns ps = (p + 1, ns, ps) := by rw [pr_s, if_neg (by omega), if_neg hN, if_pos hP, if_neg (by omega), hFv]
                rw [e]
                exact f_ret1 rfl ⟨hw8, by rfl, fun z => absurd z (by show ¬ p + 1 = -9; omega)⟩
        · skip
          have ht := hM.2.2.2.1 p
          refine f_aln 0 rfl hL rfl ?_
          refine m_gfr so55 rfl hw rfl (by decide) ?_
          refine f_aln 0 rfl hL rfl ?_
          refine m_gfi so55 (p) rfl hw hm rfl h14 ?_
          refine m_ia sa64 (t p) rfl hw hm (by omega) (by omega) (by decide) (hM.2.2.1 p (by omega) (by omega)) ?_
          refine f_bipush (n := 78) rfl (by decide) ?_
          refine f_ic rfl (by omega) (by omega) (fun _ => ?_) (fun c_9 => absurd (show ¬ (t p : Int) = (78 : Int) from hN) c_9)
          refine f_aln 0 rfl hL rfl ?_
          refine m_gfr so55 rfl hw rfl (by decide) ?_
          refine f_aln 0 rfl hL rfl ?_
          refine m_gfi so55 (p) rfl hw hm rfl h14 ?_
          refine m_ia sa64 (t p) rfl hw hm (by omega) (by omega) (by decide) (hM.2.2.1 p (by omega) (by omega)) ?_
          refine f_bipush (n := 80) rfl (by decide) ?_
          refine f_ic rfl (by omega) (by omega) (fun _ => ?_) (fun c_9 => absurd (show ¬ (t p : Int) = (80 : Int) from hP) c_9)
          refine f_aln 0 rfl hL rfl ?_
          refine f_aln 0 rfl hL rfl ?_
          refine m_gfi so55 (p) rfl hw hm rfl h14 ?_
          refine m_pf so55 rfl hw hm rfl rfl (by omega) (fun hc1 hw1 hm1 => ?_)
          refine f_goto rfl ?_
          refine f_aln 0 rfl hL rfl ?_
          refine m_gfi so55 (p) rfl hw1 hm1 rfl rfl ?_
          refine f_bipush (n := -9) rfl (by decide) ?_
          refine f_ic rfl (by omega) (by omega) (fun _ => ?_) (fun c_9 => absurd (show ¬ (p : Int) = (-9 : Int) from (by omega)) c_9)
          refine f_aln 0 rfl hL rfl ?_
          refine m_gfi so55 (p) rfl hw1 hm1 rfl rfl ?_
          have e : pr ln t (n + 1) p ns ps = (p, ns, ps) := by rw [pr_s, if_neg (by omega), if_neg hN, if_neg hP]
          rw [e]
          exact f_ret1 rfl ⟨hw1, by rfl, fun z => absurd z (by show ¬ p = -9; omega)⟩
/-! readText, fault of the reference; write, wipe of both -/
noncomputable def tG (ln : Int) (t : Int → Int) : Int := if t 0 = 72 then (pr ln t 40 1 [] []).1 else 0
theorem tF_G (m : Nat → Nat → Int) : tF m = tG (m 1 1) (tx m) := rfl
set_option maxHeartbeats 1000000 in
theorem t27 {m : Nat → Nat → Int} {ln : Int} {t : Int → Int} (hM : tM m ln t) : ∀ hc, y_in yGw hc → gi hc = m → ∃ hc', f_M 27 [.ref 55] hc (some (fi (tG ln t))) hc' ∧ y_in yGw hc' ∧ (tG ln t = -9 → pOK (gi hc') (pr ln t 40 1 [] []).2.1 (pr ln t 40 1 [] []).2.2) := fun hc hw hm => by
  have hl := hM.2.1
  have ht := hM.2.2.2.1 0
  have key : x_W none (1, 0, 2, 0, 11, 2, 49, 0, 0, ev_t27) 0 (lv_args 0 [.ref 55]) [] hc 0 0 (fun r h' => y_in yGw h' ∧ r = some (fi (tG ln t)) ∧ (tG ln t = -9 → pOK (gi h') (pr ln t 40 1 [] []).2.1 (pr ln t 40 1 [] []).2.2)) := by
    have hL : f_L (lv_args 0 [.ref 55]) [(0, .ref 55)] := f_L_of rfl
    generalize lv_args 0 [.ref 55] = L at hL
    refine f_aln 0 rfl hL rfl ?_
    refine f_s [fi (0), .ref 55] rfl rfl ?_
    refine m_pf so55 rfl hw hm rfl rfl (by decide) (fun hc1 hw1 hm1 => ?_)
    refine f_aln 0 rfl hL rfl ?_
    refine f_bipush (n := -9) rfl (by decide) ?_
    refine m_pf so55 rfl hw1 hm1 rfl rfl (by decide) (fun hc2 hw2 hm2 => ?_)
    refine f_aln 0 rfl hL rfl ?_
    refine f_s [fi (0), .ref 55] rfl rfl ?_
    refine m_pf so55 rfl hw2 hm2 rfl rfl (by decide) (fun hc3 hw3 hm3 => ?_)
    refine f_aln 0 rfl hL rfl ?_
    refine f_s [fi (0), .ref 55] rfl rfl ?_
    refine m_pf so55 rfl hw3 hm3 rfl rfl (by decide) (fun hc4 hw4 hm4 => ?_)
    refine f_aln 0 rfl hL rfl ?_
    refine m_gfi so55 (ln) rfl hw4 hm4 rfl hM.1 ?_
    refine f_if rfl (by omega) (fun c1 => ?_) (fun c1 => ?_)
    · have c1 : (ln : Int) = (0 : Int) := c1
      refine f_s [fi (0)] rfl rfl ?_
      have e0 : t 0 = 0 := hM.2.2.2.2 (by omega)
      exact f_ret1 rfl ⟨hw4, by unfold tG; rw [if_neg (by omega)], fun z => absurd z (by unfold tG; rw [if_neg (by omega)]; decide)⟩
    · have c1 : ¬ ((ln : Int) = (0 : Int)) := c1
      refine f_aln 0 rfl hL rfl ?_
      refine m_gfr so55 rfl hw4 rfl (by decide) ?_
      refine f_s [fi (0), .ref 64] rfl rfl ?_
      refine m_ia sa64 (t 0) rfl hw4 hm4 (by omega) (by omega) (by decide) (hM.2.2.1 0 (by decide) (by omega)) ?_
      refine f_bipush (n := 72) rfl (by decide) ?_
      refine f_ic rfl (by omega) (by omega) (fun c2 => ?_) (fun c2 => ?_)
      · have c2 : (t 0 : Int) = (72 : Int) := c2
        refine f_aln 0 rfl hL rfl ?_
        refine f_s [fi (1), .ref 55] rfl rfl ?_
        refine m_pf so55 rfl hw4 hm4 rfl rfl (by decide) (fun hc5 hw5 hm5 => ?_)
        have hO : pOK (up (up (up (up (up m 55 14 (0)) 55 15 (-9)) 55 10 (0)) 55 11 (0)) 55 14 (1)) [] [] := ⟨rfl, rfl, fun k e h => (by cases h), fun k e h => by cases h⟩
        have key := t27_loop (ln := ln) (t := t) 40 1 [] [] (up (up (up (up (up m 55 14 (0)) 55 15 (-9)) 55 10 (0)) 55 11 (0)) 55 14 (1)) hc5 _ hw5 hm5 rfl rfl ⟨hM.1, hM.2.1, hM.2.2.1, hM.2.2.2⟩ hO (by decide) (by decide) (by omega) (by decide) (by decide) (hL.sel [0] rfl)
        have eG : tG ln t = (pr ln t 40 1 [] []).1 := by unfold tG; rw [if_pos c2]
        rw [eG]
        exact key
      · have c2 : ¬ ((t 0 : Int) = (72 : Int)) := c2
        refine f_s [fi (0)] rfl rfl ?_
        exact f_ret1 rfl ⟨hw4, by unfold tG; rw [if_neg c2], fun z => absurd z (by unfold tG; rw [if_neg c2]; decide)⟩
  obtain ⟨n, r, h', e, e1, rfl, e3⟩ := key
  exact ⟨h', fun R hR => by cases hR; exact ⟨n, e⟩, e1, e3⟩
theorem t28 {m : Nat → Nat → Int} {ln : Int} {t : Int → Int} (hM : tM m ln t) : ∀ hc, y_in yGw hc → gi hc = m → ∃ hc', f_M 28 [.ref 55] hc (some (fi (tG ln t))) hc' := fun hc hw hm => by
  obtain ⟨hc', e1, -, -⟩ := t27 hM hc hw hm
  obtain ⟨fs, q, -⟩ := so55 hc hw
  refine ⟨hc', f_M_of (R := ev_r28) rfl ?_⟩
  have hL : f_L (lv_args 0 [.ref 55]) [(0, .ref 55)] := f_L_of rfl
  generalize lv_args 0 [.ref 55] = L at hL
  show x_W none (1, 0, 1, 0, 11, 3, 70, 0, 0, ev_t28) 0 L [] hc 0 0 _
  refine f_aln 0 rfl hL rfl ?_
  refine f_k1 e1 rfl rfl rfl (f_ar_v q rfl) rfl ?_
  exact f_ret1 rfl ⟨rfl, rfl⟩
theorem t13 {m : Nat → Nat → Int} : h_M 13 [.ref 1] m (some (fi (m 1 1))) m := h_M_of (R := ev_r13) rfl (fun hc hw hm => by
  have hL : f_L (lv_args 0 [.ref 1]) [(0, .ref 1)] := f_L_of rfl
  generalize lv_args 0 [.ref 1] = L at hL
  show x_W none (1, 0, 1, 0, 9, 0, 0, 0, 0, ev_t13) 0 L [] hc 0 0 _
  refine f_aln 0 rfl hL rfl ?_
  refine m_gfi so1 (m 1 1) rfl hw hm rfl rfl ?_
  exact f_ret1 rfl ⟨rfl, hw, hm⟩)
theorem t12_full {m : Nat → Nat → Int} (l1 : 0 ≤ m 1 1) (l2 : m 1 1 ≤ 40) (hl : ¬ m 1 1 < 40) {x : Int} : h_M 12 [.ref 1, fi (x)] m (some (fi (0))) m := h_M_of (R := ev_r12) rfl (fun hc hw hm => by
  have hL : f_L (lv_args 0 [.ref 1, fi (x)]) [(0, .ref 1), (1, fi (x))] := f_L_of rfl
  generalize lv_args 0 [.ref 1, fi (x)] = L at hL
  show x_W none (2, 0, 2, 1, 9, 0, 0, 0, 0, ev_t12) 0 L [] hc 0 0 _
  refine f_aln 0 rfl hL rfl ?_
  refine m_gfi so1 (m 1 1) rfl hw hm rfl rfl ?_
  refine f_if rfl (by omega) (fun c_9 => absurd (show (m 1 1 : Int) < (0 : Int) from c_9) (by omega)) (fun _ => ?_)
  refine f_aln 0 rfl hL rfl ?_
  refine m_gfi so1 (m 1 1) rfl hw hm rfl rfl ?_
  refine f_aln 0 rfl hL rfl ?_
  refine m_gfr so1 rfl hw rfl (by decide) ?_
  refine m_al sa2 rfl hw (by decide) ?_
  refine f_ic rfl (by omega) (by omega) (fun c_9 => absurd (show (m 1 1 : Int) < (40 : Int) from c_9) (by omega)) (fun _ => ?_)
  refine f_s [fi (0)] rfl rfl ?_
  exact f_ret2 rfl (Or.inl rfl) ⟨rfl, hw, hm⟩)
theorem t12_ok {m : Nat → Nat → Int} (l1 : 0 ≤ m 1 1) (l2 : m 1 1 ≤ 40) (hl : m 1 1 < 40) {x : Int} (x1 : 0 ≤ x) (x2 : x ≤ 255) : h_M 12 [.ref 1, fi (x)] m (some (fi (1))) (up (up m 2 (m 1 1).toNat (x)) 1 1 ((m 1 1) + 1)) := h_M_of (R := ev_r12) rfl (fun hc hw hm => by
  have hL : f_L (lv_args 0 [.ref 1, fi (x)]) [(0, .ref 1), (1, fi (x))] := f_L_of rfl
  generalize lv_args 0 [.ref 1, fi (x)] = L at hL
  show x_W none (2, 0, 2, 1, 9, 0, 0, 0, 0, ev_t12) 0 L [] hc 0 0 _
  refine f_aln 0 rfl hL rfl ?_
  refine m_gfi so1 (m 1 1) rfl hw hm rfl rfl ?_
  refine f_if rfl (by omega) (fun c_9 => absurd (show (m 1 1 : Int) < (0 : Int) from c_9) (by omega)) (fun _ => ?_)
  refine f_aln 0 rfl hL rfl ?_
  refine m_gfi so1 (m 1 1) rfl hw hm rfl rfl ?_
  refine f_aln 0 rfl hL rfl ?_
  refine m_gfr so1 rfl hw rfl (by decide) ?_
  refine m_al sa2 rfl hw (by decide) ?_
  refine f_ic rfl (by omega) (by omega) (fun _ => ?_) (fun c_9 => absurd (show (m 1 1 : Int) < (40 : Int) from (by omega)) c_9)
  refine f_aln 0 rfl hL rfl ?_
  refine m_gfr so1 rfl hw rfl (by decide) ?_
  refine f_aln 0 rfl hL rfl ?_
  refine m_gfi so1 (m 1 1) rfl hw hm rfl rfl ?_
  refine f_iln 1 rfl hL rfl ?_
  refine m_cas sa2 rfl hw hm (by omega) (by omega) (by decide) (by omega) (fun hc1 hw1 hm1 => ?_)
  refine f_aln 0 rfl hL rfl ?_
  refine f_s [.ref 1, .ref 1] rfl rfl ?_
  refine m_gfi so1 (m 1 1) rfl hw1 hm1 rfl rfl ?_
  refine f_s [fi (1), fi (m 1 1), .ref 1] rfl rfl ?_
  refine f_iadd rfl ?_
  refine m_pf so1 rfl hw1 hm1 rfl rfl (by omega) (fun hc2 hw2 hm2 => ?_)
  refine f_s [fi (1)] rfl rfl ?_
  exact f_ret2 rfl (Or.inr rfl) ⟨rfl, hw2, hm2⟩)
theorem t14_out {m : Nat → Nat → Int} {x : Int} (x1 : -2147483648 ≤ x) (x2 : x ≤ 2147483647) (hx : ¬ (0 ≤ x ∧ x ≤ 255)) : h_M 14 [.ref 0, fi (x)] m (some (fi (-2))) m := h_M_of (R := ev_r14) rfl (fun hc hw hm => by
  have hL : f_L (lv_args 0 [.ref 0, fi (x)]) [(0, .ref 0), (1, fi (x))] := f_L_of rfl
  generalize lv_args 0 [.ref 0, fi (x)] = L at hL
  show x_W none (1, 0, 2, 1, 10, 1, 21, 0, 0, ev_t14) 0 L [] hc 0 0 _
  refine f_iln 1 rfl hL rfl ?_
  refine f_if rfl (by omega) (fun c1 => ?_) (fun c1 => ?_)
  · have c1 : (x : Int) < (0 : Int) := c1
    refine f_bipush (n := -2) rfl (by decide) ?_
    exact f_ret1 rfl ⟨rfl, hw, hm⟩
  · have c1 : ¬ ((x : Int) < (0 : Int)) := c1
    refine f_iln 1 rfl hL rfl ?_
    refine f_sipush (n := 255) rfl (by decide) ?_
    refine f_ic rfl (by omega) (by omega) (fun c_9 => absurd (show (x : Int) ≤ (255 : Int) from c_9) (by omega)) (fun _ => ?_)
    refine f_bipush (n := -2) rfl (by decide) ?_
    exact f_ret1 rfl ⟨rfl, hw, hm⟩)
theorem t14_full {m : Nat → Nat → Int} (l1 : 0 ≤ m 1 1) (l2 : m 1 1 ≤ 40) {x : Int} (x1 : -2147483648 ≤ x) (x2 : x ≤ 2147483647) (hx : 0 ≤ x ∧ x ≤ 255) (hl : ¬ m 1 1 < 40) : h_M 14 [.ref 0, fi (x)] m (some (fi (-4))) m := h_M_of (R := ev_r14) rfl (fun hc hw hm => by
  have hL : f_L (lv_args 0 [.ref 0, fi (x)]) [(0, .ref 0), (1, fi (x))] := f_L_of rfl
  generalize lv_args 0 [.ref 0, fi (x)] = L at hL
  show x_W none (1, 0, 2, 1, 10, 1, 21, 0, 0, ev_t14) 0 L [] hc 0 0 _
  refine f_iln 1 rfl hL rfl ?_
  refine f_if rfl (by omega) (fun c_9 => absurd (show (x : Int) < (0 : Int) from c_9) (by omega)) (fun _ => ?_)
  refine f_iln 1 rfl hL rfl ?_
  refine f_sipush (n := 255) rfl (by decide) ?_
  refine f_ic rfl (by omega) (by omega) (fun _ => ?_) (fun c_9 => absurd (show (x : Int) ≤ (255 : Int) from (by omega)) c_9)
  refine f_aln 0 rfl hL rfl ?_
  refine m_gfr so0 rfl hw rfl (by decide) ?_
  refine f_iln 1 rfl hL rfl ?_
  refine f_i2c rfl ?_
  rw [f_nar hx.1 (by omega)]
  refine m_k1 (t12_full l1 l2 hl (x := x)) hw hm rfl rfl rfl (m_ar so1 hw rfl) rfl (fun hc1 hw1 hm1 => ?_)
  refine f_if rfl (by decide) (fun _ => ?_) (fun c_9 => absurd (show (0 : Int) = (0 : Int) from (by decide)) c_9)
  refine f_bipush (n := -4) rfl (by decide) ?_
  exact f_ret1 rfl ⟨rfl, hw1, hm1⟩)
theorem t14_ok {m : Nat → Nat → Int} (l1 : 0 ≤ m 1 1) (l2 : m 1 1 ≤ 40) {x : Int} (x1 : -2147483648 ≤ x) (x2 : x ≤ 2147483647) (hx : 0 ≤ x ∧ x ≤ 255) (hl : m 1 1 < 40) : h_M 14 [.ref 0, fi (x)] m (some (fi (m 1 1 + 1))) (up (up m 2 (m 1 1).toNat (x)) 1 1 (m 1 1 + 1)) := h_M_of (R := ev_r14) rfl (fun hc hw hm => by
  have hL : f_L (lv_args 0 [.ref 0, fi (x)]) [(0, .ref 0), (1, fi (x))] := f_L_of rfl
  generalize lv_args 0 [.ref 0, fi (x)] = L at hL
  show x_W none (1, 0, 2, 1, 10, 1, 21, 0, 0, ev_t14) 0 L [] hc 0 0 _
  refine f_iln 1 rfl hL rfl ?_
  refine f_if rfl (by omega) (fun c_9 => absurd (show (x : Int) < (0 : Int) from c_9) (by omega)) (fun _ => ?_)
  refine f_iln 1 rfl hL rfl ?_
  refine f_sipush (n := 255) rfl (by decide) ?_
  refine f_ic rfl (by omega) (by omega) (fun _ => ?_) (fun c_9 => absurd (show (x : Int) ≤ (255 : Int) from (by omega)) c_9)
  refine f_aln 0 rfl hL rfl ?_
  refine m_gfr so0 rfl hw rfl (by decide) ?_
  refine f_iln 1 rfl hL rfl ?_
  refine f_i2c rfl ?_
  rw [f_nar hx.1 (by omega)]
  refine m_k1 (t12_ok l1 l2 hl hx.1 hx.2) hw hm rfl rfl rfl (m_ar so1 hw rfl) rfl (fun hc1 hw1 hm1 => ?_)
  refine f_if rfl (by decide) (fun c_9 => absurd (show (1 : Int) = (0 : Int) from c_9) (by decide)) (fun _ => ?_)
  refine f_aln 0 rfl hL rfl ?_
  refine m_gfr so0 rfl hw1 rfl (by decide) ?_
  refine m_k1 t13 hw1 hm1 rfl rfl rfl (m_ar so1 hw1 rfl) rfl (fun hc2 hw2 hm2 => ?_)
  refine f_goto rfl ?_
  exact f_ret1 rfl ⟨rfl, hw2, hm2⟩)
theorem t16_out {m : Nat → Nat → Int} {x : Int} (x1 : -2147483648 ≤ x) (x2 : x ≤ 2147483647) (hx : ¬ (0 ≤ x ∧ x ≤ 255)) : h_M 16 [.ref 55, fi (x)] m (some (fi (-2))) m := h_M_of (R := ev_r16) rfl (fun hc hw hm => by
  have hL : f_L (lv_args 0 [.ref 55, fi (x)]) [(0, .ref 55), (1, fi (x))] := f_L_of rfl
  generalize lv_args 0 [.ref 55, fi (x)] = L at hL
  show x_W none (1, 0, 2, 1, 11, 1, 25, 0, 0, ev_t16) 0 L [] hc 0 0 _
  refine f_iln 1 rfl hL rfl ?_
  refine f_i2l rfl (by omega) ?_
  refine f_s [fl (0), fl (x)] rfl rfl ?_
  refine f_ldc2 (255) rfl rfl ?_
  refine m_k1 (hM15 x 0 255 (by omega) (by omega) (by omega)) hw hm rfl rfl rfl rfl rfl (fun hc1 hw1 hm1 => ?_)
  refine f_if rfl (by split <;> omega) (fun c_9 => absurd (show ¬ (if 0 ≤ x ∧ x ≤ 255 then 1 else 0 : Int) = (0 : Int) from c_9) (by rw [if_neg hx]; exact fun z => z rfl)) (fun _ => ?_)
  refine f_bipush (n := -2) rfl (by decide) ?_
  exact f_ret1 rfl ⟨rfl, hw1, hm1⟩)
theorem t16_full {m : Nat → Nat → Int} (l1 : 0 ≤ m 55 13) (l2 : m 55 13 ≤ 40) {x : Int} (x1 : -2147483648 ≤ x) (x2 : x ≤ 2147483647) (hx : 0 ≤ x ∧ x ≤ 255) (hl : ¬ m 55 13 < 40) : h_M 16 [.ref 55, fi (x)] m (some (fi (-4))) m := h_M_of (R := ev_r16) rfl (fun hc hw hm => by
  have hL : f_L (lv_args 0 [.ref 55, fi (x)]) [(0, .ref 55), (1, fi (x))] := f_L_of rfl
  generalize lv_args 0 [.ref 55, fi (x)] = L at hL
  show x_W none (1, 0, 2, 1, 11, 1, 25, 0, 0, ev_t16) 0 L [] hc 0 0 _
  refine f_iln 1 rfl hL rfl ?_
  refine f_i2l rfl (by omega) ?_
  refine f_s [fl (0), fl (x)] rfl rfl ?_
  refine f_ldc2 (255) rfl rfl ?_
  refine m_k1 (hM15 x 0 255 (by omega) (by omega) (by omega)) hw hm rfl rfl rfl rfl rfl (fun hc1 hw1 hm1 => ?_)
  refine f_if rfl (by split <;> omega) (fun _ => ?_) (fun c_9 => absurd (show ¬ (if 0 ≤ x ∧ x ≤ 255 then 1 else 0 : Int) = (0 : Int) from (by rw [if_pos hx]; decide)) c_9)
  refine f_aln 0 rfl hL rfl ?_
  refine m_gfi so55 (m 55 13) rfl hw1 hm1 rfl rfl ?_
  refine f_bipush (n := 40) rfl (by decide) ?_
  refine f_ic rfl (by omega) (by omega) (fun c_9 => absurd (show ¬ (m 55 13 : Int) = (40 : Int) from c_9) (by omega)) (fun _ => ?_)
  refine f_bipush (n := -4) rfl (by decide) ?_
  exact f_ret1 rfl ⟨rfl, hw1, hm1⟩)
theorem t16_ok {m : Nat → Nat → Int} (l1 : 0 ≤ m 55 13) (l2 : m 55 13 ≤ 40) {x : Int} (x1 : -2147483648 ≤ x) (x2 : x ≤ 2147483647) (hx : 0 ≤ x ∧ x ≤ 255) (hl : m 55 13 < 40) : h_M 16 [.ref 55, fi (x)] m (some (fi (m 55 13 + 1))) (up (up m 64 (m 55 13).toNat (x)) 55 13 ((m 55 13) + 1)) := h_M_of (R := ev_r16) rfl (fun hc hw hm => by
  have hL : f_L (lv_args 0 [.ref 55, fi (x)]) [(0, .ref 55), (1, fi (x))] := f_L_of rfl
  generalize lv_args 0 [.ref 55, fi (x)] = L at hL
  show x_W none (1, 0, 2, 1, 11, 1, 25, 0, 0, ev_t16) 0 L [] hc 0 0 _
  refine f_iln 1 rfl hL rfl ?_
  refine f_i2l rfl (by omega) ?_
  refine f_s [fl (0), fl (x)] rfl rfl ?_
  refine f_ldc2 (255) rfl rfl ?_
  refine m_k1 (hM15 x 0 255 (by omega) (by omega) (by omega)) hw hm rfl rfl rfl rfl rfl (fun hc1 hw1 hm1 => ?_)
  refine f_if rfl (by split <;> omega) (fun _ => ?_) (fun c_9 => absurd (show ¬ (if 0 ≤ x ∧ x ≤ 255 then 1 else 0 : Int) = (0 : Int) from (by rw [if_pos hx]; decide)) c_9)
  refine f_aln 0 rfl hL rfl ?_
  refine m_gfi so55 (m 55 13) rfl hw1 hm1 rfl rfl ?_
  refine f_bipush (n := 40) rfl (by decide) ?_
  refine f_ic rfl (by omega) (by omega) (fun _ => ?_) (fun c_9 => absurd (show ¬ (m 55 13 : Int) = (40 : Int) from (by omega)) c_9)
  refine f_aln 0 rfl hL rfl ?_
  refine m_gfr so55 rfl hw1 rfl (by decide) ?_
  refine f_aln 0 rfl hL rfl ?_
  refine m_gfi so55 (m 55 13) rfl hw1 hm1 rfl rfl ?_
  refine f_iln 1 rfl hL rfl ?_
  refine m_ias sa64 rfl hw1 hm1 (by omega) (by omega) (by decide) (by omega) (fun hc2 hw2 hm2 => ?_)
  refine f_aln 0 rfl hL rfl ?_
  refine f_s [.ref 55, .ref 55] rfl rfl ?_
  refine m_gfi so55 (m 55 13) rfl hw2 hm2 rfl rfl ?_
  refine f_s [fi (1), fi (m 55 13), .ref 55] rfl rfl ?_
  refine f_iadd rfl ?_
  refine m_pf so55 rfl hw2 hm2 rfl rfl (by omega) (fun hc3 hw3 hm3 => ?_)
  refine f_aln 0 rfl hL rfl ?_
  refine m_gfi so55 ((m 55 13) + 1) rfl hw3 hm3 rfl rfl ?_
  exact f_ret1 rfl ⟨rfl, hw3, hm3⟩)
theorem t17 {m : Nat → Nat → Int} (l1 : 0 ≤ m 1 1) (l2 : m 1 1 ≤ 40) : h_M 17 [.ref 1] m (some (fi (m 1 1))) (up m 1 1 (0)) := h_M_of (R := ev_r17) rfl (fun hc hw hm => by
  have hL : f_L (lv_args 0 [.ref 1]) [(0, .ref 1)] := f_L_of rfl
  generalize lv_args 0 [.ref 1] = L at hL
  show x_W none (1, 0, 2, 0, 9, 0, 0, 0, 0, ev_t17) 0 L [] hc 0 0 _
  refine f_aln 0 rfl hL rfl ?_
  refine m_gfi so1 (m 1 1) rfl hw hm rfl rfl ?_
  refine f_istn [(1, fi (m 1 1)), (0, .ref 1)] rfl (by decide) hL rfl (fun L1 hL1 => ?_)
  refine f_aln 1 rfl hL1 rfl ?_
  refine f_s [fi (0), .ref 1] rfl rfl ?_
  refine m_pf so1 rfl hw hm rfl rfl (by decide) (fun hc1 hw1 hm1 => ?_)
  refine f_iln 0 rfl hL1 rfl ?_
  exact f_ret1 rfl ⟨rfl, hw1, hm1⟩)
theorem t18 {m : Nat → Nat → Int} (l1 : 0 ≤ m 1 1) (l2 : m 1 1 ≤ 40) : h_M 18 [.ref 0] m (some (fi (m 1 1))) (up m 1 1 (0)) := h_M_of (R := ev_r18) rfl (fun hc hw hm => by
  have hL : f_L (lv_args 0 [.ref 0]) [(0, .ref 0)] := f_L_of rfl
  generalize lv_args 0 [.ref 0] = L at hL
  show x_W none (1, 0, 1, 0, 10, 1, 21, 0, 0, ev_t18) 0 L [] hc 0 0 _
  refine f_aln 0 rfl hL rfl ?_
  refine m_gfr so0 rfl hw rfl (by decide) ?_
  refine m_k1 (t17 l1 l2) hw hm rfl rfl rfl (m_ar so1 hw rfl) rfl (fun hc1 hw1 hm1 => ?_)
  exact f_ret1 rfl ⟨rfl, hw1, hm1⟩)
theorem t19 {m : Nat → Nat → Int} (l1 : 0 ≤ m 55 13) (l2 : m 55 13 ≤ 40) : h_M 19 [.ref 55] m (some (fi (m 55 13))) (up m 55 13 (0)) := h_M_of (R := ev_r19) rfl (fun hc hw hm => by
  have hL : f_L (lv_args 0 [.ref 55]) [(0, .ref 55)] := f_L_of rfl
  generalize lv_args 0 [.ref 55] = L at hL
  show x_W none (1, 0, 2, 0, 11, 0, 0, 0, 0, ev_t19) 0 L [] hc 0 0 _
  refine f_aln 0 rfl hL rfl ?_
  refine m_gfi so55 (m 55 13) rfl hw hm rfl rfl ?_
  refine f_istn [(1, fi (m 55 13)), (0, .ref 55)] rfl (by decide) hL rfl (fun L1 hL1 => ?_)
  refine f_aln 1 rfl hL1 rfl ?_
  refine f_s [fi (0), .ref 55] rfl rfl ?_
  refine m_pf so55 rfl hw hm rfl rfl (by decide) (fun hc1 hw1 hm1 => ?_)
  refine f_iln 0 rfl hL1 rfl ?_
  exact f_ret1 rfl ⟨rfl, hw1, hm1⟩)
/-! what a call leaves as it was; ranges of numbers; the text's relation, and what write, wipe, fault do to it -/
def g_agree (FP : yMd) (m m' : Nat → Nat → Int) : Prop := ∀ e ∈ FP, ∀ i, e.2.1 ≤ i → i ≤ e.2.2 → m' e.1 i = m e.1 i
def g_dis (md FP : yMd) : Bool := FP.all (fun e => md.all (fun d => !(Nat.beq d.1 e.1) || (Nat.blt d.2.2 e.2.1 || Nat.blt e.2.2 d.2.1)))
theorem g_dis_ok {md FP : yMd} {hc hc' : ev_H} (h : g_dis md FP = true) (hu : y_un md hc hc') : g_agree FP (gi hc) (gi hc') := fun e he i h1 h2 => by
  have h3 := List.all_eq_true.mp h e he
  have hn : ¬ y_cov md e.1 i := fun ⟨d, hd, d1, d2, d3⟩ => by
    have h4 := List.all_eq_true.mp h3 d hd
    rw [d1, Nat.beq_refl, Bool.not_true, Bool.false_or, Bool.or_eq_true] at h4
    rcases h4 with h4 | h4
    · have h5 : d.2.2 + 1 ≤ e.2.1 := Nat.le_of_ble_eq_true h4
      omega
    · have h5 : e.2.2 + 1 ≤ d.2.1 := Nat.le_of_ble_eq_true h4
      omega
  unfold gi
  rw [hu e.1 i hn]
theorem g_agree.tr {FP : yMd} {m m' m'' : Nat → Nat → Int} (h : g_agree FP m m') (h' : g_agree FP m' m'') : g_agree FP m m'' := fun e he i h1 h2 => (h' e he i h1 h2).trans (h e he i h1 h2)
theorem g_agree.at {FP : yMd} {m m' : Nat → Nat → Int} (h : g_agree FP m m') (k : Nat) {e : Nat × Nat × Nat} (hk : FP[k]? = some e) (i : Nat) (h1 : e.2.1 ≤ i) (h2 : i ≤ e.2.2) : m' e.1 i = m e.1 i := h e (List.mem_of_getElem? hk) i h1 h2
theorem g_rf {hc : ev_H} (hin : y_in yG hc) {q i : Nat} {c : yC} {lo hi : Int} (hy : x_g yG q = some c) (h2 : c.1 = 2) (hf : x_g c.2.2.2 i = some (0, lo, hi, false)) : lo ≤ gi hc q i ∧ gi hc q i ≤ hi := by
  obtain ⟨cc, h1, h3⟩ := hin q c hy
  obtain ⟨c1, c2, c3, c4⟩ := c
  have h2 : c1 = 2 := h2
  subst h2
  obtain ⟨fs, rfl, h4⟩ := h3
  obtain ⟨v, v1, z, rfl, v3⟩ := h4 i _ hf
  rw [gi_of (hc := hc) (q := q) (i := i) (z := z) (by rw [f_get_o h1]; exact v1)]
  rcases v3 with v3 | v3
  · exact v3
  · cases v3.1
theorem g_ra {hc : ev_H} (hin : y_in yG hc) {q n : Nat} {c : yC} {lo hi : Int} (hy : x_g yG q = some c) (h2 : c.1 = 0) (hn : c.2.2.1 = n) (hk : ((List.range n).all (fun i => match x_g c.2.2.2 i with
  | some f => x_le lo f.2.1 && (x_le f.2.2.1 hi && !(f.2.2.2))
  | none => false)) = true) : ∀ i : Nat, i < n → lo ≤ gi hc q i ∧ gi hc q i ≤ hi := fun i hi9 => by
  obtain ⟨cc, h1, h3⟩ := hin q c hy
  obtain ⟨c1, c2, c3, c4⟩ := c
  have h2 : c1 = 0 := h2
  have hn : c3 = n := hn
  subst h2
  subst hn
  obtain ⟨xs, rfl, e1, e2⟩ := h3
  have hl : i < xs.length := by rw [e1]; exact hi9
  have hz : xs[i]? = some xs[i] := List.getElem?_eq_getElem hl
  have h9 := List.all_eq_true.mp hk i (List.mem_range.mpr hi9)
  have h9 : (match x_g c4 i with
    | some f => x_le lo f.2.1 && (x_le f.2.2.1 hi && !(f.2.2.2))
    | none => false) = true := h9
  rw [gi_of (m_get_a h1 hz)]
  cases hf : x_g c4 i with
  | none => rw [hf] at h9; cases h9
  | some f =>
    rw [hf] at h9
    simp only [Bool.and_eq_true] at h9
    obtain ⟨a1, a2, a3⟩ := h9
    have a1 := x_le_iff.mp a1
    have a2 := x_le_iff.mp a2
    rcases e2 i f _ hf hz with h | h
    · exact ⟨Int.le_trans a1 h.1, Int.le_trans h.2 a2⟩
    · rw [h.1] at a3; cases a3
theorem g_tw {hc : ev_H} (hin : y_in yG hc) : tw (gi hc) := ⟨g_rf (lo := 0) (hi := 40) hin rfl rfl rfl, g_ra (n := 40) (lo := 0) (hi := 65535) hin rfl rfl rfl (by decide +kernel)⟩
theorem g_i32 {z : Int} : ∃ rr : Int, (-2147483648 ≤ rr ∧ rr ≤ 2147483647) ∧ fi z = fi rr := ⟨(Int32.ofInt z).toInt, f_i32 _, by show Value.int (Int32.ofInt z) = Value.int (Int32.ofInt (Int32.ofInt z).toInt); rw [Int32.ofInt_toInt]⟩
/-- both texts are alike -/
def TR (m : Nat → Nat → Int) : Prop := m 1 1 = m 55 13 ∧ ∀ i : Nat, (i : Int) < m 1 1 → m 2 i = m 64 i
def TR_FP : yMd := [(1, 1, 1), (55, 13, 13), (2, 0, 39), (64, 0, 39)]
theorem TR_keep {m m' : Nat → Nat → Int} (hl : m 1 1 ≤ 40) (h : g_agree TR_FP m m') (hT : TR m) : TR m' := by
  have e1 : m' 1 1 = m 1 1 := h.at 0 rfl 1 (Nat.le_refl _) (Nat.le_refl _)
  have e2 : m' 55 13 = m 55 13 := h.at 1 rfl 13 (Nat.le_refl _) (Nat.le_refl _)
  refine ⟨by rw [e1, e2]; exact hT.1, fun i hi => ?_⟩
  rw [e1] at hi
  have e3 : m' 2 i = m 2 i := h.at 2 rfl i (Nat.zero_le _) (by show i ≤ 39; omega)
  have e4 : m' 64 i = m 64 i := h.at 3 rfl i (Nat.zero_le _) (by show i ≤ 39; omega)
  rw [e3, e4]
  exact hT.2 i hi
theorem g_args2' {x : Int} {q : Nat} : y_args [(2, Int.ofNat q, Int.ofNat q, false), (0, Int.negSucc 2147483647, Int.ofNat 2147483647, false)] [.ref q, fi x] := f_args_c f_rAr (f_args_c f_rAi f_args_n)
theorem g_args1' {q : Nat} : y_args [(2, Int.ofNat q, Int.ofNat q, false)] [.ref q] := f_args_c f_rAr f_args_n
theorem TR_write {hc : ev_H} (hin : y_in yG hc) (hT : TR (gi hc)) {x : Int} (rx : -2147483648 ≤ x ∧ x ≤ 2147483647) : ∃ rr hc1 fs1 hc2, (-2147483648 ≤ rr ∧ rr ≤ 2147483647) ∧ f_M 14 [.ref 0, fi x] hc (some (fi rr)) hc1 ∧ hc1[55]? = some (.inr (.inr (10, fs1))) ∧ f_M 16 [.ref 55, fi x] hc1 (some (fi rr)) hc2 ∧ y_in yG hc2 ∧ TR (gi hc2) ∧ y_un yct14_0.2.2 hc hc1 ∧ y_un yct16_0.2.2 hc1 hc2 := by
  have hw := y_win hin
  have hl := (g_tw hin).1
  obtain ⟨t1, t2⟩ := hT
  have core : ∃ rr hc1 hc2, f_M 14 [.ref 0, fi x] hc (some (fi rr)) hc1 ∧ f_M 16 [.ref 55, fi x] hc1 (some (fi rr)) hc2 ∧ TR (gi hc2) := by
    by_cases hx : 0 ≤ x ∧ x ≤ 255
    · by_cases h40 : gi hc 1 1 < 40
      · obtain ⟨hc1, m1, hw1, e1⟩ := t14_ok (m := gi hc) hl.1 hl.2 rx.1 rx.2 hx h40 hc hw rfl
        have e13 : gi hc1 55 13 = gi hc 55 13 := by rw [e1]; rfl
        obtain ⟨hc2, m2, hw2, e2⟩ := t16_ok (m := gi hc1) (by omega) (by omega) rx.1 rx.2 hx (by omega) hc1 hw1 rfl
        refine ⟨gi hc 1 1 + 1, hc1, hc2, m1, by rw [show gi hc 1 1 + 1 = gi hc1 55 13 + 1 by omega]; exact m2, ?_⟩
        rw [e2]
        have a1 : (up (up (gi hc1) 64 (gi hc1 55 13).toNat x) 55 13 (gi hc1 55 13 + 1)) 1 1 = gi hc 1 1 + 1 := by show gi hc1 1 1 = _; rw [e1]; rfl
        refine ⟨by rw [a1]; show _ = gi hc1 55 13 + 1; omega, fun i hi => ?_⟩
        rw [a1] at hi
        have b1 : (up (up (gi hc1) 64 (gi hc1 55 13).toNat x) 55 13 (gi hc1 55 13 + 1)) 2 i = gi hc1 2 i := rfl
        have b2 : (up (up (gi hc1) 64 (gi hc1 55 13).toNat x) 55 13 (gi hc1 55 13 + 1)) 64 i = if 64 = 64 ∧ i = (gi hc1 55 13).toNat then x else gi hc1 64 i := rfl
        have b3 : gi hc1 2 i = if 2 = 2 ∧ i = (gi hc 1 1).toNat then x else gi hc 2 i := by rw [e1]; rfl
        have b4 : gi hc1 64 i = gi hc 64 i := by rw [e1]; rfl
        rw [b1, b2, b3, b4, e13, ← t1]
        by_cases e : i = (gi hc 1 1).toNat
        · rw [if_pos ⟨rfl, e⟩, if_pos ⟨rfl, e⟩]
        · rw [if_neg (fun z => e z.2), if_neg (fun z => e z.2)]
          exact t2 i (by omega)
      · obtain ⟨hc1, m1, hw1, e1⟩ := t14_full (m := gi hc) hl.1 hl.2 rx.1 rx.2 hx h40 hc hw rfl
        obtain ⟨hc2, m2, hw2, e2⟩ := t16_full (m := gi hc1) (by rw [e1]; omega) (by rw [e1]; omega) rx.1 rx.2 hx (by rw [e1]; omega) hc1 hw1 rfl
        exact ⟨-4, hc1, hc2, m1, m2, by rw [e2, e1]; exact ⟨t1, t2⟩⟩
    · obtain ⟨hc1, m1, hw1, e1⟩ := t14_out (m := gi hc) rx.1 rx.2 hx hc hw rfl
      obtain ⟨hc2, m2, hw2, e2⟩ := t16_out (m := gi hc1) rx.1 rx.2 hx hc1 hw1 rfl
      exact ⟨-2, hc1, hc2, m1, m2, by rw [e2, e1]; exact ⟨t1, t2⟩⟩
  obtain ⟨z, hc1, hc2, m1, m2, tr⟩ := core
  obtain ⟨hin1, hun1⟩ := f_Mu (R := ev_r14) rfl yc14_0 hin g_args2' m1
  obtain ⟨hin2, hun2⟩ := f_Mu (R := ev_r16) rfl yc16_0 hin1 g_args2' m2
  obtain ⟨fs1, q55⟩ := g_55 hin1
  obtain ⟨rr, r0, er⟩ := g_i32 (z := z)
  exact ⟨rr, hc1, fs1, hc2, r0, er ▸ m1, q55, er ▸ m2, hin2, tr, hun1, hun2⟩
theorem TR_wipe {hc : ev_H} (hin : y_in yG hc) (hT : TR (gi hc)) : ∃ rr hc1 fs1 hc2, (-2147483648 ≤ rr ∧ rr ≤ 2147483647) ∧ f_M 18 [.ref 0] hc (some (fi rr)) hc1 ∧ hc1[55]? = some (.inr (.inr (10, fs1))) ∧ f_M 19 [.ref 55] hc1 (some (fi rr)) hc2 ∧ y_in yG hc2 ∧ TR (gi hc2) ∧ y_un yct18_0.2.2 hc hc1 ∧ y_un yct19_0.2.2 hc1 hc2 := by
  have hw := y_win hin
  have hl := (g_tw hin).1
  obtain ⟨t1, t2⟩ := hT
  obtain ⟨hc1, m1, hw1, e1⟩ := t18 (m := gi hc) hl.1 hl.2 hc hw rfl
  have e13 : gi hc1 55 13 = gi hc 55 13 := by rw [e1]; rfl
  obtain ⟨hc2, m2, hw2, e2⟩ := t19 (m := gi hc1) (by omega) (by omega) hc1 hw1 rfl
  obtain ⟨hin1, hun1⟩ := f_Mu (R := ev_r18) rfl yc18_0 hin g_args1' m1
  obtain ⟨hin2, hun2⟩ := f_Mu (R := ev_r19) rfl yc19_0 hin1 g_args1' m2
  obtain ⟨fs1, q55⟩ := g_55 hin1
  refine ⟨gi hc 1 1, hc1, fs1, hc2, by omega, m1, q55, by rw [t1, ← e13]; exact m2, hin2, ?_, hun1, hun2⟩
  rw [e2]
  have a1 : (up (gi hc1) 55 13 0) 1 1 = 0 := by show gi hc1 1 1 = _; rw [e1]; rfl
  exact ⟨by rw [a1]; rfl, fun i hi => by rw [a1] at hi; omega⟩
/-- the text of the class is the reference's -/
theorem TR_M {m m1 : Nat → Nat → Int} (hw : tw m) (hT : TR m) (e13 : m1 55 13 = m 55 13) (e64 : ∀ i, m1 64 i = m 64 i) : tM m1 (m 1 1) (tx m) := ⟨by rw [e13]; exact hT.1.symm, hw.1, fun i h1 h2 => by rw [e64, tx_in ⟨h1, h2⟩]; exact (hT.2 _ (by omega)).symm, tx_r hw, fun h => tx_out (by omega)⟩
theorem TR_fault {hc : ev_H} (hin : y_in yG hc) (hT : TR (gi hc)) : ∃ rr hc1 fs1 hc2, (-2147483648 ≤ rr ∧ rr ≤ 2147483647) ∧ f_M 25 [.ref 0] hc (some (fi rr)) hc1 ∧ hc1[55]? = some (.inr (.inr (10, fs1))) ∧ f_M 28 [.ref 55] hc1 (some (fi rr)) hc2 ∧ y_in yG hc2 ∧ TR (gi hc2) ∧ y_un yct25_0.2.2 hc hc1 ∧ y_un yct28_0.2.2 hc1 hc2 := by
  have hw := y_win hin
  have htw := g_tw hin
  obtain ⟨hc1, m1, hw1, e1⟩ := t25 htw hc hw rfl
  obtain ⟨hc2, m2⟩ := t28 (m := gi hc1) (TR_M htw hT (by rw [e1]) (fun i => by rw [e1])) hc1 hw1 rfl
  obtain ⟨hin1, hun1⟩ := f_Mu (R := ev_r25) rfl yc25_0 hin g_args1' m1
  obtain ⟨hin2, hun2⟩ := f_Mu (R := ev_r28) rfl yc28_0 hin1 g_args1' m2
  obtain ⟨fs1, q55⟩ := g_55 hin1
  rw [tF_G] at m1
  obtain ⟨rr, r0, er⟩ := g_i32 (z := tG (gi hc 1 1) (tx (gi hc)))
  exact ⟨rr, hc1, fs1, hc2, r0, er ▸ m1, q55, er ▸ m2, hin2, TR_keep htw.1.2 ((g_dis_ok (by decide) hun1).tr (g_dis_ok (by decide) hun2)) hT, hun1, hun2⟩
theorem bI_t {C : Prop} [Decidable C] (h : ¬ bI (decide C) = 0) : C := of_decide_eq_true (bI1 h)
theorem bI_f {C : Prop} [Decidable C] (h : bI (decide C) = 0) : ¬ C := of_decide_eq_false (bI0 h)
theorem bI_n {C : Prop} [Decidable C] (h : ¬ ¬ bI (decide C) = 0) : ¬ C := of_decide_eq_false (bI0 (Classical.byContradiction h))
