/-! THE OTHER HEAP: every location has a range for good (yG); a few are known better (a cache); what may be written is told -/
abbrev yF : Type := Nat × Int × Int × Bool
abbrev yC : Type := Nat × Nat × Nat × List (List yF)
abbrev yQ : Type := List (List yC)
abbrev yMd : Type := List (Nat × Nat × Nat)
abbrev yKa : Type := List (Nat × Nat × xv)
abbrev yVn : Type := List (Nat × xv × xv × xv)
abbrev yH : Type := yMd × yKa × yVn
abbrev yo : Type := Nat × List xv × List xv × yH × xE × Nat × Nat
abbrev yR : Type := Option (List yo)
abbrev yK : Type := List xv → List xv → yH → xE → Nat → Nat → yR
/-- the script: five ints from where the law stands (its counter: a symbol), or none -/
abbrev yX : Type := Option (Nat × List xv)
def y_rF (f : yF) (v : Value) : Prop := match f.1 with
  | 0 => ∃ z : Int32, v = .int z ∧ x_s1 f.2 z.toInt
  | 1 => ∃ z : Int64, v = .long z ∧ x_s1 f.2 z.toInt
  | _ => v = .ref f.2.1.toNat
def y_rC (c : yC) (cc : ev_C) : Prop := match c.1 with
  | 0 => ∃ xs : List Int32, cc = .inl (c.2.1, xs) ∧ xs.length = c.2.2.1 ∧ ∀ i f z, x_g c.2.2.2 i = some f → xs[i]? = some z → x_s1 f.2 z.toInt
  | 1 => cc = .inr (.inl ((List.range c.2.2.1).map (fun i => c.2.1 + i)))
  | _ => ∃ fs : List Value, cc = .inr (.inr (c.2.1, fs)) ∧ ∀ i f, x_g c.2.2.2 i = some f → ∃ v, fs[i]? = some v ∧ y_rF f v
def y_in (g : yQ) (hc : ev_H) : Prop := ∀ q c, x_g g q = some c → ∃ cc, hc[q]? = some cc ∧ y_rC c cc
/-- what lies at a location -/
def y_get (hc : ev_H) (q i : Nat) : Option Value := match hc[q]? with
  | some (.inl a) => (a.2[i]?).map (fun z => .int z)
  | some (.inr (.inr o)) => o.2[i]?
  | _ => none
def y_cov (md : yMd) (q i : Nat) : Prop := ∃ e ∈ md, e.1 = q ∧ e.2.1 ≤ i ∧ i ≤ e.2.2
def y_un (md : yMd) (h0 hc : ev_H) : Prop := ∀ q i, ¬ y_cov md q i → y_get hc q i = y_get h0 q i
def y_vo (op : Nat) (a b r : Value) : Prop := match op with
  | 0 => ∀ l, ev_s .idiv .null (b :: a :: l) = some (r :: l)
  | _ => ∀ l, ev_s .irem .null (b :: a :: l) = some (r :: l)
def y_ca (n : Nat) (ρ : Nat → Int) (ka : yKa) (hc : ev_H) : Prop := ∀ e ∈ ka, e.2.2.1 < 2 ∧ x_ok n e.2.2 ∧ y_get hc e.1 e.2.1 = some (x_in ρ e.2.2)
def y_vn (n : Nat) (ρ : Nat → Int) (vn : yVn) : Prop := ∀ e ∈ vn, x_ok n e.2.1 ∧ x_ok n e.2.2.1 ∧ x_ok n e.2.2.2 ∧ e.2.2.2.1 = 0 ∧ (e.2.1.1 = 0 ∧ e.2.2.1.1 = 0) ∧ y_vo e.1 (x_in ρ e.2.1) (x_in ρ e.2.2.1) (x_in ρ e.2.2.2)
/-- h0: the ranges, and the heap as it was at the start -/
def y_rH (h0 : yQ × ev_H) (n : Nat) (ρ : Nat → Int) (h : yH) (hc : ev_H) : Prop := y_in h0.1 hc ∧ y_un h.1 h0.2 hc ∧ y_ca n ρ h.2.1 hc ∧ y_vn n ρ h.2.2
theorem y_ca.up {n n' : Nat} {ρ ρ' : Nat → Int} {ka : yKa} {hc : ev_H} (h : y_ca n ρ ka hc) (he : x_ext n ρ ρ') (hn : n ≤ n') : y_ca n' ρ' ka hc := fun e hm => by
  obtain ⟨h1, h2, h3⟩ := h e hm
  exact ⟨h1, h2.up hn, by rw [x_in_ext he h2]; exact h3⟩
theorem y_vn.up {n n' : Nat} {ρ ρ' : Nat → Int} {vn : yVn} (h : y_vn n ρ vn) (he : x_ext n ρ ρ') (hn : n ≤ n') : y_vn n' ρ' vn := fun e hm => by
  obtain ⟨h1, h2, h3, h4, h6, h5⟩ := h e hm
  exact ⟨h1.up hn, h2.up hn, h3.up hn, h4, h6, by rw [x_in_ext he h1, x_in_ext he h2, x_in_ext he h3]; exact h5⟩
theorem y_rH.up {h0 : yQ × ev_H} {n n' : Nat} {ρ ρ' : Nat → Int} {h : yH} {hc : ev_H} (hh : y_rH h0 n ρ h hc) (he : x_ext n ρ ρ') (hn : n ≤ n') : y_rH h0 n' ρ' h hc := ⟨hh.1, hh.2.1, hh.2.2.1.up he hn, hh.2.2.2.up he hn⟩
def y_rX (n : Nat) (ρ : Nat → Int) (scx : yX) (sc : Option (List Int32)) : Prop := ∀ x, scx = some x → x.1 < n ∧ 0 ≤ ρ x.1 ∧ ρ x.1 ≤ 100000 ∧ ∃ xs, sc = some xs ∧ ∀ k v, x.2[k]? = some v → v.1 = 0 ∧ x_ok n v ∧ xs[(ρ x.1).toNat + k]? = some (Int32.ofInt (x_vl ρ v))
theorem y_rX.up {n n' : Nat} {ρ ρ' : Nat → Int} {scx : yX} {sc : Option (List Int32)} (h : y_rX n ρ scx sc) (he : x_ext n ρ ρ') (hn : n ≤ n') : y_rX n' ρ' scx sc := fun x hx => by
  obtain ⟨h1, h2, h3, xs, h4, h5⟩ := h x hx
  refine ⟨Nat.lt_of_lt_of_le h1 hn, by rw [he _ h1]; exact h2, by rw [he _ h1]; exact h3, xs, h4, fun k v hk => ?_⟩
  obtain ⟨g1, g2, g3⟩ := h5 k v hk
  exact ⟨g1, g2.up hn, by rw [he _ h1, x_vl_ext he g2]; exact g3⟩
def y_G (h0 : yQ × ev_H) (ρ : Nat → Int) (env : xE) (L st : List xv) (h : yH) (Lc : ev_L) (stc : List Value) (hc : ev_H) : Prop := x_sat ρ env ∧ x_rL env.length ρ L Lc ∧ x_rS env.length ρ st stc ∧ y_rH h0 env.length ρ h hc
def y_O (h0 : yQ × ev_H) (sc : Option (List Int32)) (I : ev_I) (Q : Option Value → ev_H → Prop) (ρ : Nat → Int) (n : Nat) (o : yo) : Prop := ∀ (ρ' : Nat → Int) (Lc : ev_L) (stc : List Value) (hc : ev_H), x_ext n ρ ρ' → n ≤ o.2.2.2.2.1.length → y_G h0 ρ' o.2.2.2.2.1 o.2.1 o.2.2.1 o.2.2.2.1 Lc stc hc → match o.1 with
  | 0 => Q stc.head? hc
  | p + 1 => x_W sc I p Lc stc hc o.2.2.2.2.2.1 o.2.2.2.2.2.2 Q
def y_S (h0 : yQ × ev_H) (scx : yX) (I : ev_I) (pc : Nat) (K : yK) : Prop := ∀ L st h env kc ks outs, K L st h env kc ks = some outs → ∀ ρ sc Lc stc hc, y_rX env.length ρ scx sc → y_G h0 ρ env L st h Lc stc hc → ∀ Q, (∀ o ∈ outs, y_O h0 sc I Q ρ env.length o) → x_W sc I pc Lc stc hc kc ks Q
theorem y_O.up {h0 : yQ × ev_H} {sc : Option (List Int32)} {I : ev_I} {Q : Option Value → ev_H → Prop} {ρ ρ' : Nat → Int} {n n' : Nat} {o : yo} (h : y_O h0 sc I Q ρ n o) (he : x_ext n ρ ρ') (hn : n ≤ n') : y_O h0 sc I Q ρ' n' o := fun ρ'' Lc stc hc e1 e2 hG => h ρ'' Lc stc hc (he.tr hn e1) (Nat.le_trans hn e2) hG
/-! a location written -/
theorem y_get_setA {hc : ev_H} {q t k : Nat} {xs : List Int32} {z : Int32} (h : hc[q]? = some (.inl (t, xs))) (hk : k < xs.length) (q' i : Nat) : y_get (hc.set q (.inl (t, xs.set k z))) q' i = if q' = q ∧ i = k then some (.int z) else y_get hc q' i := by
  have hl := (List.getElem?_eq_some_iff.mp h).1
  unfold y_get
  rw [List.getElem?_set]
  by_cases hq : q = q'
  · subst hq
    rw [if_pos rfl, if_pos hl, h]
    dsimp only
    rw [List.getElem?_set]
    by_cases hi : k = i
    · subst hi
      rw [if_pos rfl, if_pos hk, if_pos ⟨rfl, rfl⟩]
      rfl
    · rw [if_neg hi, if_neg (fun z => hi z.2.symm)]
  · rw [if_neg hq, if_neg (fun z => hq z.1.symm)]
theorem y_get_setO {hc : ev_H} {q a k : Nat} {fs : List Value} {w : Value} (h : hc[q]? = some (.inr (.inr (a, fs)))) (hk : k < fs.length) (q' i : Nat) : y_get (hc.set q (.inr (.inr (a, fs.set k w)))) q' i = if q' = q ∧ i = k then some w else y_get hc q' i := by
  have hl := (List.getElem?_eq_some_iff.mp h).1
  unfold y_get
  rw [List.getElem?_set]
  by_cases hq : q = q'
  · subst hq
    rw [if_pos rfl, if_pos hl, h]
    dsimp only
    rw [List.getElem?_set]
    by_cases hi : k = i
    · subst hi
      rw [if_pos rfl, if_pos hk, if_pos ⟨rfl, rfl⟩]
    · rw [if_neg hi, if_neg (fun z => hi z.2.symm)]
  · rw [if_neg hq, if_neg (fun z => hq z.1.symm)]
theorem y_in_set {g : yQ} {hc : ev_H} {q : Nat} {cc : ev_C} (h : y_in g hc) (hn : ∀ c, x_g g q = some c → y_rC c cc) (hl : q < hc.length) : y_in g (hc.set q cc) := fun q' c hq => by
  obtain ⟨cc', h1, h2⟩ := h q' c hq
  rw [List.getElem?_set]
  by_cases e : q = q'
  · subst e
    exact ⟨cc, by rw [if_pos rfl, if_pos hl], hn c hq⟩
  · exact ⟨cc', by rw [if_neg e]; exact h1, h2⟩
/-! the cache -/
noncomputable def y_lk (q i : Nat) (ka : yKa) : Option xv := List.rec (motive := fun _ => Option xv) none (fun e _ ih => match Nat.beq e.1 q && Nat.beq e.2.1 i with
  | true => some e.2.2
  | false => ih) ka
theorem y_lk_ok {q i : Nat} {v : xv} : ∀ {ka : yKa}, y_lk q i ka = some v → (q, i, v) ∈ ka := by
  intro ka
  induction ka with
  | nil => intro h; cases h
  | cons e r ih =>
    intro h
    have h : (match Nat.beq e.1 q && Nat.beq e.2.1 i with
      | true => some e.2.2
      | false => y_lk q i r) = some v := h
    cases hb : (Nat.beq e.1 q && Nat.beq e.2.1 i) with
    | true =>
      rw [hb] at h
      cases h
      rw [Bool.and_eq_true] at hb
      have h1 := Nat.eq_of_beq_eq_true hb.1
      have h2 := Nat.eq_of_beq_eq_true hb.2
      obtain ⟨e1, e2, e3⟩ := e
      have h1 : e1 = q := h1
      have h2 : e2 = i := h2
      subst h1
      subst h2
      exact List.mem_cons_self
    | false =>
      rw [hb] at h
      exact List.mem_cons_of_mem _ (ih h)
/-- without what lies in cells lo to hi at places a to b -/
noncomputable def y_dr (lo hi a b : Nat) (ka : yKa) : yKa := List.rec (motive := fun _ => yKa) [] (fun e _ ih => match Nat.ble lo e.1 && (Nat.ble e.1 hi && (Nat.ble a e.2.1 && Nat.ble e.2.1 b)) with
  | true => ih
  | false => e :: ih) ka
theorem y_dr_ok {lo hi a b : Nat} {e : Nat × Nat × xv} : ∀ {ka : yKa}, e ∈ y_dr lo hi a b ka → e ∈ ka ∧ ¬ (lo ≤ e.1 ∧ e.1 ≤ hi ∧ a ≤ e.2.1 ∧ e.2.1 ≤ b) := by
  intro ka
  induction ka with
  | nil => intro h; cases h
  | cons e0 r ih =>
    intro h
    have h : e ∈ (match Nat.ble lo e0.1 && (Nat.ble e0.1 hi && (Nat.ble a e0.2.1 && Nat.ble e0.2.1 b)) with
      | true => y_dr lo hi a b r
      | false => e0 :: y_dr lo hi a b r) := h
    cases hb : (Nat.ble lo e0.1 && (Nat.ble e0.1 hi && (Nat.ble a e0.2.1 && Nat.ble e0.2.1 b))) with
    | true =>
      rw [hb] at h
      exact ⟨List.mem_cons_of_mem _ (ih h).1, (ih h).2⟩
    | false =>
      rw [hb] at h
      rcases List.mem_cons.mp h with rfl | h
      · refine ⟨List.mem_cons_self, fun z => ?_⟩
        rw [Nat.ble_eq_true_of_le z.1, Nat.ble_eq_true_of_le z.2.1, Nat.ble_eq_true_of_le z.2.2.1, Nat.ble_eq_true_of_le z.2.2.2] at hb
        cases hb
      · exact ⟨List.mem_cons_of_mem _ (ih h).1, (ih h).2⟩
/-- may it be written? -/
noncomputable def y_md (q a b : Nat) (md : yMd) : Bool := List.rec (motive := fun _ => Bool) false (fun e _ ih => match Nat.beq e.1 q && (Nat.ble e.2.1 a && Nat.ble b e.2.2) with
  | true => true
  | false => ih) md
theorem y_md_ok {q a b : Nat} : ∀ {md : yMd}, y_md q a b md = true → ∀ i, a ≤ i → i ≤ b → y_cov md q i := by
  intro md
  induction md with
  | nil => intro h; cases h
  | cons e r ih =>
    intro h i h1 h2
    have h : (match Nat.beq e.1 q && (Nat.ble e.2.1 a && Nat.ble b e.2.2) with
      | true => true
      | false => y_md q a b r) = true := h
    cases hb : (Nat.beq e.1 q && (Nat.ble e.2.1 a && Nat.ble b e.2.2)) with
    | true =>
      simp only [Bool.and_eq_true] at hb
      exact ⟨e, List.mem_cons_self, Nat.eq_of_beq_eq_true hb.1, Nat.le_trans (Nat.le_of_ble_eq_true hb.2.1) h1, Nat.le_trans h2 (Nat.le_of_ble_eq_true hb.2.2)⟩
    | false =>
      rw [hb] at h
      obtain ⟨e', g1, g2⟩ := ih h i h1 h2
      exact ⟨e', List.mem_cons_of_mem _ g1, g2⟩
/-- a value lies within a range -/
noncomputable def y_ent (env : xE) (v : xv) : Option (Int × Int × Bool) := match v.2.1 with
  | 0 => some (v.2.2, v.2.2, false)
  | s + 1 => match x_n env s with
    | some e => match x_eq v.2.2 0 with
      | true => some e
      | false => match x_bd env v with
        | some p => some (p.1, p.2, false)
        | none => none
    | none => none
theorem y_ent_ok {ρ : Nat → Int} {env : xE} {v : xv} {e : Int × Int × Bool} (h : x_sat ρ env) (he : y_ent env v = some e) : x_s1 e (x_vl ρ v) := by
  obtain ⟨k, s, o⟩ := v
  unfold y_ent at he
  cases s with
  | zero => cases he; exact Or.inl ⟨Int.le_refl _, Int.le_refl _⟩
  | succ s =>
    dsimp only at he
    rw [x_n_eq] at he
    cases hs : env[s]? with
    | none => rw [hs] at he; cases he
    | some e0 =>
      rw [hs] at he
      dsimp only at he
      cases hq : x_eq o 0 with
      | true =>
        rw [hq] at he
        cases he
        have : o = 0 := x_eq_iff.mp hq
        subst this
        show x_s1 e (ρ s + 0)
        rw [Int.add_zero]
        exact h s e hs
      | false =>
        rw [hq] at he
        dsimp only at he
        cases hb : x_bd env (k, s + 1, o) with
        | none => rw [hb] at he; cases he
        | some p =>
          rw [hb] at he
          cases he
          exact Or.inl (x_bd_ok h hb)
/-- e lies within g -/
def y_le (e g : Int × Int × Bool) : Bool := (!(x_le e.1 e.2.1) || (x_le g.1 e.1 && x_le e.2.1 g.2.1) || (x_eq e.1 (-9) && (x_eq e.2.1 (-9) && g.2.2))) && (!(e.2.2) || (g.2.2 || (x_le g.1 (-9) && x_le (-9) g.2.1)))
theorem y_le_ok {e g : Int × Int × Bool} {z : Int} (h : y_le e g = true) (hz : x_s1 e z) : x_s1 g z := by
  unfold y_le at h
  rw [Bool.and_eq_true] at h
  obtain ⟨h1, h2⟩ := h
  rcases hz with ⟨z1, z2⟩ | ⟨z1, z2⟩
  · have hle : x_le e.1 e.2.1 = true := x_le_iff.mpr (Int.le_trans z1 z2)
    rw [hle] at h1
    simp only [Bool.not_true, Bool.false_or, Bool.or_eq_true, Bool.and_eq_true] at h1
    rcases h1 with h1 | h1
    · exact Or.inl ⟨Int.le_trans (x_le_iff.mp h1.1) z1, Int.le_trans z2 (x_le_iff.mp h1.2)⟩
    · have a1 := x_eq_iff.mp h1.1
      have a2 := x_eq_iff.mp h1.2.1
      exact Or.inr ⟨h1.2.2, by omega⟩
  · rw [z1] at h2
    simp only [Bool.not_true, Bool.false_or, Bool.or_eq_true, Bool.and_eq_true] at h2
    rcases h2 with h2 | h2
    · exact Or.inr ⟨h2, z2⟩
    · have a1 := x_le_iff.mp h2.1
      have a2 := x_le_iff.mp h2.2
      exact Or.inl ⟨by omega, by omega⟩
noncomputable def y_wi (g : Int × Int × Bool) (env : xE) (v : xv) : Bool := match y_ent env v with
  | some e => y_le e g
  | none => false
theorem y_wi_ok {g : Int × Int × Bool} {ρ : Nat → Int} {env : xE} {v : xv} (h : x_sat ρ env) (hw : y_wi g env v = true) : x_s1 g (x_vl ρ v) := by
  unfold y_wi at hw
  cases he : y_ent env v with
  | none => rw [he] at hw; cases hw
  | some e => rw [he] at hw; exact y_le_ok hw (y_ent_ok h he)
