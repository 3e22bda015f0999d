/-! THE OTHER HEAP: every location has a range for good (yG); a few are known better (a cache); what may be written is told -/
abbrev yF : Type := Nat × Int × Int × Bool
abbrev yC : Type := Nat × Nat × Nat × List (List yF)
abbrev yQ : Type := List (List yC)
abbrev yMd : Type := List (Nat × Nat × Nat)
abbrev yKa : Type := List (Nat × Nat × xv)
abbrev yVn : Type := List (Nat × xv × xv × xv)
abbrev yH : Type := yMd × yKa × yVn
abbrev yo : Type := Nat × List xv × List xv × yH × xE × Nat × Nat
abbrev yR : Type := Option (List yo)
abbrev yK : Type := List xv → List xv → yH → xE → Nat → Nat → yR
/-- the script: five ints from where the law stands (its counter: a symbol), or none -/
abbrev yX : Type := Option (Nat × List xv)
def y_rF (f : yF) (v : Value) : Prop := match f.1 with
  | 0 => ∃ z : Int32, v = .int z ∧ x_s1 f.2 z.toInt
  | 1 => ∃ z : Int64, v = .long z ∧ x_s1 f.2 z.toInt
  | _ => v = .ref f.2.1.toNat
def y_rC (c : yC) (cc : ev_C) : Prop := match c.1 with
  | 0 => ∃ xs : List Int32, cc = .inl (c.2.1, xs) ∧ xs.length = c.2.2.1 ∧ ∀ i f z, x_g c.2.2.2 i = some f → xs[i]? = some z → x_s1 f.2 z.toInt
  | 1 => cc = .inr (.inl ((List.range c.2.2.1).map (fun i => c.2.1 + i)))
  | _ => ∃ fs : List Value, cc = .inr (.inr (c.2.1, fs)) ∧ ∀ i f, x_g c.2.2.2 i = some f → ∃ v, fs[i]? = some v ∧ y_rF f v
def y_in (g : yQ) (hc : ev_H) : Prop := ∀ q c, x_g g q = some c → ∃ cc, hc[q]? = some cc ∧ y_rC c cc
/-- what lies at a location -/
def y_get (hc : ev_H) (q i : Nat) : Option Value := match hc[q]? with
  | some (.inl a) => (a.2[i]?).map (fun z => .int z)
  | some (.inr (.inr o)) => o.2[i]?
  | _ => none
def y_cov (md : yMd) (q i : Nat) : Prop := ∃ e ∈ md, e.1 = q ∧ e.2.1 ≤ i ∧ i ≤ e.2.2
def y_un (md : yMd) (h0 hc : ev_H) : Prop := ∀ q i, ¬ y_cov md q i → y_get hc q i = y_get h0 q i
def y_vo (op : Nat) (a b r : Value) : Prop := match op with
  | 0 => ∀ l, ev_s .idiv .null (b :: a :: l) = some (r :: l)
  | _ => ∀ l, ev_s .irem .null (b :: a :: l) = some (r :: l)
def y_ca (n : Nat) (ρ : Nat → Int) (ka : yKa) (hc : ev_H) : Prop := ∀ e ∈ ka, e.2.2.1 < 2 ∧ x_ok n e.2.2 ∧ y_get hc e.1 e.2.1 = some (x_in ρ e.2.2)
def y_vn (n : Nat) (ρ : Nat → Int) (vn : yVn) : Prop := ∀ e ∈ vn, x_ok n e.2.1 ∧ x_ok n e.2.2.1 ∧ x_ok n e.2.2.2 ∧ e.2.2.2.1 = 0 ∧ (e.2.1.1 = 0 ∧ e.2.2.1.1 = 0) ∧ y_vo e.1 (x_in ρ e.2.1) (x_in ρ e.2.2.1) (x_in ρ e.2.2.2)
/-- h0: the ranges, and the heap as it was at the start -/
def y_rH (h0 : yQ × ev_H) (n : Nat) (ρ : Nat → Int) (h : yH) (hc : ev_H) : Prop := y_in h0.1 hc ∧ y_un h.1 h0.2 hc ∧ y_ca n ρ h.2.1 hc ∧ y_vn n ρ h.2.2
theorem y_ca.up {n n' : Nat} {ρ ρ' : Nat → Int} {ka : yKa} {hc : ev_H} (h : y_ca n ρ ka hc) (he : x_ext n ρ ρ') (hn : n ≤ n') : y_ca n' ρ' ka hc := fun e hm => by
  obtain ⟨h1, h2, h3⟩ := h e hm
  exact ⟨h1, h2.up hn, by rw [x_in_ext he h2]; exact h3⟩
theorem y_vn.up {n n' : Nat} {ρ ρ' : Nat → Int} {vn : yVn} (h : y_vn n ρ vn) (he : x_ext n ρ ρ') (hn : n ≤ n') : y_vn n' ρ' vn := fun e hm => by
  obtain ⟨h1, h2, h3, h4, h6, h5⟩ := h e hm
  exact ⟨h1.up hn, h2.up hn, h3.up hn, h4, h6, by rw [x_in_ext he h1, x_in_ext he h2, x_in_ext he h3]; exact h5⟩
theorem y_rH.up {h0 : yQ × ev_H} {n n' : Nat} {ρ ρ' : Nat → Int} {h : yH} {hc : ev_H} (hh : y_rH h0 n ρ h hc) (he : x_ext n ρ ρ') (hn : n ≤ n') : y_rH h0 n' ρ' h hc := ⟨hh.1, hh.2.1, hh.2.2.1.up he hn, hh.2.2.2.up he hn⟩
def y_rX (n : Nat) (ρ : Nat → Int) (scx : yX) (sc : Option (List Int32)) : Prop := ∀ x, scx = some x → x.1 < n ∧ 0 ≤ ρ x.1 ∧ ρ x.1 ≤ 100000 ∧ ∃ xs, sc = some xs ∧ ∀ k v, x.2[k]? = some v → v.1 = 0 ∧ x_ok n v ∧ xs[(ρ x.1).toNat + k]? = some (Int32.ofInt (x_vl ρ v))
theorem y_rX.up {n n' : Nat} {ρ ρ' : Nat → Int} {scx : yX} {sc : Option (List Int32)} (h : y_rX n ρ scx sc) (he : x_ext n ρ ρ') (hn : n ≤ n') : y_rX n' ρ' scx sc := fun x hx => by
  obtain ⟨h1, h2, h3, xs, h4, h5⟩ := h x hx
  refine ⟨Nat.lt_of_lt_of_le h1 hn, by rw [he _ h1]; exact h2, by rw [he _ h1]; exact h3, xs, h4, fun k v hk => ?_⟩
  obtain ⟨g1, g2, g3⟩ := h5 k v hk
  exact ⟨g1, g2.up hn, by rw [he _ h1, x_vl_ext he g2]; exact g3⟩
def y_G (h0 : yQ × ev_H) (ρ : Nat → Int) (env : xE) (L st : List xv) (h : yH) (Lc : ev_L) (stc : List Value) (hc : ev_H) : Prop := x_sat ρ env ∧ x_rL env.length ρ L Lc ∧ x_rS env.length ρ st stc ∧ y_rH h0 env.length ρ h hc
def y_O (h0 : yQ × ev_H) (sc : Option (List Int32)) (I : ev_I) (Q : Option Value → ev_H → Prop) (ρ : Nat → Int) (n : Nat) (o : yo) : Prop := ∀ (ρ' : Nat → Int) (Lc : ev_L) (stc : List Value) (hc : ev_H), x_ext n ρ ρ' → n ≤ o.2.2.2.2.1.length → y_G h0 ρ' o.2.2.2.2.1 o.2.1 o.2.2.1 o.2.2.2.1 Lc stc hc → match o.1 with
  | 0 => Q stc.head? hc
  | p + 1 => x_W sc I p Lc stc hc o.2.2.2.2.2.1 o.2.2.2.2.2.2 Q
def y_S (h0 : yQ × ev_H) (scx : yX) (I : ev_I) (pc : Nat) (K : yK) : Prop := ∀ L st h env kc ks outs, K L st h env kc ks = some outs → ∀ ρ sc Lc stc hc, y_rX env.length ρ scx sc → y_G h0 ρ env L st h Lc stc hc → ∀ Q, (∀ o ∈ outs, y_O h0 sc I Q ρ env.length o) → x_W sc I pc Lc stc hc kc ks Q
theorem y_O.up {h0 : yQ × ev_H} {sc : Option (List Int32)} {I : ev_I} {Q : Option Value → ev_H → Prop} {ρ ρ' : Nat → Int} {n n' : Nat} {o : yo} (h : y_O h0 sc I Q ρ n o) (he : x_ext n ρ ρ') (hn : n ≤ n') : y_O h0 sc I Q ρ' n' o := fun ρ'' Lc stc hc e1 e2 hG => h ρ'' Lc stc hc (he.tr hn e1) (Nat.le_trans hn e2) hG
/-! a location written -/
theorem y_get_setA {hc : ev_H} {q t k : Nat} {xs : List Int32} {z : Int32} (h : hc[q]? = some (.inl (t, xs))) (hk : k < xs.length) (q' i : Nat) : y_get (hc.set q (.inl (t, xs.set k z))) q' i = if q' = q ∧ i = k then some (.int z) else y_get hc q' i := by
  have hl := (List.getElem?_eq_some_iff.mp h).1
  unfold y_get
  rw [List.getElem?_set]
  by_cases hq : q = q'
  · subst hq
    rw [if_pos rfl, if_pos hl, h]
    dsimp only
    rw [List.getElem?_set]
    by_cases hi : k = i
    · subst hi
      rw [if_pos rfl, if_pos hk, if_pos ⟨rfl, rfl⟩]
      rfl
    · rw [if_neg hi, if_neg (fun z => hi z.2.symm)]
  · rw [if_neg hq, if_neg (fun z => hq z.1.symm)]
theorem y_get_setO {hc : ev_H} {q a k : Nat} {fs : List Value} {w : Value} (h : hc[q]? = some (.inr (.inr (a, fs)))) (hk : k < fs.length) (q' i : Nat) : y_get (hc.set q (.inr (.inr (a, fs.set k w)))) q' i = if q' = q ∧ i = k then some w else y_get hc q' i := by
  have hl := (List.getElem?_eq_some_iff.mp h).1
  unfold y_get
  rw [List.getElem?_set]
  by_cases hq : q = q'
  · subst hq
    rw [if_pos rfl, if_pos hl, h]
    dsimp only
    rw [List.getElem?_set]
    by_cases hi : k = i
    · subst hi
      rw [if_pos rfl, if_pos hk, if_pos ⟨rfl, rfl⟩]
    · rw [if_neg hi, if_neg (fun z => hi z.2.symm)]
  · rw [if_neg hq, if_neg (fun z => hq z.1.symm)]
theorem y_in_set {g : yQ} {hc : ev_H} {q : Nat} {cc : ev_C} (h : y_in g hc) (hn : ∀ c, x_g g q = some c → y_rC c cc) (hl : q < hc.length) : y_in g (hc.set q cc) := fun q' c hq => by
  obtain ⟨cc', h1, h2⟩ := h q' c hq
  rw [List.getElem?_set]
  by_cases e : q = q'
  · subst e
    exact ⟨cc, by rw [if_pos rfl, if_pos hl], hn c hq⟩
  · exact ⟨cc', by rw [if_neg e]; exact h1, h2⟩
/-! the cache -/
noncomputable def y_lk (q i : Nat) (ka : yKa) : Option xv := List.rec (motive := fun _ => Option xv) none (fun e _ ih => match Nat.beq e.1 q && Nat.beq e.2.1 i with
  | true => some e.2.2
  | false => ih) ka
theorem y_lk_ok {q i : Nat} {v : xv} : ∀ {ka : yKa}, y_lk q i ka = some v → (q, i, v) ∈ ka := by
  intro ka
  induction ka with
  | nil => intro h; cases h
  | cons e r ih =>
    intro h
    have h : (match Nat.beq e.1 q && Nat.beq e.2.1 i with
      | true => some e.2.2
      | false => y_lk q i r) = some v := h
    cases hb : (Nat.beq e.1 q && Nat.beq e.2.1 i) with
    | true =>
      rw [hb] at h
      cases h
      rw [Bool.and_eq_true] at hb
      have h1 := Nat.eq_of_beq_eq_true hb.1
      have h2 := Nat.eq_of_beq_eq_true hb.2
      obtain ⟨e1, e2, e3⟩ := e
      have h1 : e1 = q := h1
      have h2 : e2 = i := h2
      subst h1
      subst h2
      exact List.mem_cons_self
    | false =>
      rw [hb] at h
      exact List.mem_cons_of_mem _ (ih h)
/-- without what lies in cells lo to hi at places a to b -/
noncomputable def y_dr (lo hi a b : Nat) (ka : yKa) : yKa := List.rec (motive := fun _ => yKa) [] (fun e _ ih => match Nat.ble lo e.1 && (Nat.ble e.1 hi && (Nat.ble a e.2.1 && Nat.ble e.2.1 b)) with
  | true => ih
  | false => e :: ih) ka
theorem y_dr_ok {lo hi a b : Nat} {e : Nat × Nat × xv} : ∀ {ka : yKa}, e ∈ y_dr lo hi a b ka → e ∈ ka ∧ ¬ (lo ≤ e.1 ∧ e.1 ≤ hi ∧ a ≤ e.2.1 ∧ e.2.1 ≤ b) := by
  intro ka
  induction ka with
  | nil => intro h; cases h
  | cons e0 r ih =>
    intro h
    have h : e ∈ (match Nat.ble lo e0.1 && (Nat.ble e0.1 hi && (Nat.ble a e0.2.1 && Nat.ble e0.2.1 b)) with
      | true => y_dr lo hi a b r
      | false => e0 :: y_dr lo hi a b r) := h
    cases hb : (Nat.ble lo e0.1 && (Nat.ble e0.1 hi && (Nat.ble a e0.2.1 && Nat.ble e0.2.1 b))) with
    | true =>
      rw [hb] at h
      exact ⟨List.mem_cons_of_mem _ (ih h).1, (ih h).2⟩
    | false =>
      rw [hb] at h
      rcases List.mem_cons.mp h with rfl | h
      · refine ⟨List.mem_cons_self, fun z => ?_⟩
        rw [Nat.ble_eq_true_of_le z.1, Nat.ble_eq_true_of_le z.2.1, Nat.ble_eq_true_of_le z.2.2.1, Nat.ble_eq_true_of_le z.2.2.2] at hb
        cases hb
      · exact ⟨List.mem_cons_of_mem _ (ih h).1, (ih h).2⟩
/-- may it be written? -/
noncomputable def y_md (q a b : Nat) (md : yMd) : Bool := List.rec (motive := fun _ => Bool) false (fun e _ ih => match Nat.beq e.1 q && (Nat.ble e.2.1 a && Nat.ble b e.2.2) with
  | true => true
  | false => ih) md
theorem y_md_ok {q a b : Nat} : ∀ {md : yMd}, y_md q a b md = true → ∀ i, a ≤ i → i ≤ b → y_cov md q i := by
  intro md
  induction md with
  | nil => intro h; cases h
  | cons e r ih =>
    intro h i h1 h2
    have h : (match Nat.beq e.1 q && (Nat.ble e.2.1 a && Nat.ble b e.2.2) with
      | true => true
      | false => y_md q a b r) = true := h
    cases hb : (Nat.beq e.1 q && (Nat.ble e.2.1 a && Nat.ble b e.2.2)) with
    | true =>
      simp only [Bool.and_eq_true] at hb
      exact ⟨e, List.mem_cons_self, Nat.eq_of_beq_eq_true hb.1, Nat.le_trans (Nat.le_of_ble_eq_true hb.2.1) h1, Nat.le_trans h2 (Nat.le_of_ble_eq_true hb.2.2)⟩
    | false =>
      rw [hb] at h
      obtain ⟨e', g1, g2⟩ := ih h i h1 h2
      exact ⟨e', List.mem_cons_of_mem _ g1, g2⟩
/-- a value lies within a range -/
noncomputable def y_ent (env : xE) (v : xv) : Option (Int × Int × Bool) := match v.2.1 with
  | 0 => some (v.2.2, v.2.2, false)
  | s + 1 => match x_n env s with
    | some e => match x_eq v.2.2 0 with
      | true => some e
      | false => match x_bd env v with
        | some p => some (p.1, p.2, false)
        | none => none
    | none => none
theorem y_ent_ok {ρ : Nat → Int} {env : xE} {v : xv} {e : Int × Int × Bool} (h : x_sat ρ env) (he : y_ent env v = some e) : x_s1 e (x_vl ρ v) := by
  obtain ⟨k, s, o⟩ := v
  unfold y_ent at he
  cases s with
  | zero => cases he; exact Or.inl ⟨Int.le_refl _, Int.le_refl _⟩
  | succ s =>
    dsimp only at he
    rw [x_n_eq] at he
    cases hs : env[s]? with
    | none => rw [hs] at he; cases he
    | some e0 =>
      rw [hs] at he
      dsimp only at he
      cases hq : x_eq o 0 with
      | true =>
        rw [hq] at he
        cases he
        have : o = 0 := x_eq_iff.mp hq
        subst this
        show x_s1 e (ρ s + 0)
        rw [Int.add_zero]
        exact h s e hs
      | false =>
        rw [hq] at he
        dsimp only at he
        cases hb : x_bd env (k, s + 1, o) with
        | none => rw [hb] at he; cases he
        | some p =>
          rw [hb] at he
          cases he
          exact Or.inl (x_bd_ok h hb)
/-- e lies within g -/
def y_le (e g : Int × Int × Bool) : Bool := (!(x_le e.1 e.2.1) || (x_le g.1 e.1 && x_le e.2.1 g.2.1) || (x_eq e.1 (-9) && (x_eq e.2.1 (-9) && g.2.2))) && (!(e.2.2) || (g.2.2 || (x_le g.1 (-9) && x_le (-9) g.2.1)))
theorem y_le_ok {e g : Int × Int × Bool} {z : Int} (h : y_le e g = true) (hz : x_s1 e z) : x_s1 g z := by
  unfold y_le at h
  rw [Bool.and_eq_true] at h
  obtain ⟨h1, h2⟩ := h
  rcases hz with ⟨z1, z2⟩ | ⟨z1, z2⟩
  · have hle : x_le e.1 e.2.1 = true := x_le_iff.mpr (Int.le_trans z1 z2)
    rw [hle] at h1
    simp only [Bool.not_true, Bool.false_or, Bool.or_eq_true, Bool.and_eq_true] at h1
    rcases h1 with h1 | h1
    · exact Or.inl ⟨Int.le_trans (x_le_iff.mp h1.1) z1, Int.le_trans z2 (x_le_iff.mp h1.2)⟩
    · have a1 := x_eq_iff.mp h1.1
      have a2 := x_eq_iff.mp h1.2.1
      exact Or.inr ⟨h1.2.2, by omega⟩
  · rw [z1] at h2
    simp only [Bool.not_true, Bool.false_or, Bool.or_eq_true, Bool.and_eq_true] at h2
    rcases h2 with h2 | h2
    · exact Or.inr ⟨h2, z2⟩
    · have a1 := x_le_iff.mp h2.1
      have a2 := x_le_iff.mp h2.2
      exact Or.inl ⟨by omega, by omega⟩
noncomputable def y_wi (g : Int × Int × Bool) (env : xE) (v : xv) : Bool := match y_ent env v with
  | some e => y_le e g
  | none => false
theorem y_wi_ok {g : Int × Int × Bool} {ρ : Nat → Int} {env : xE} {v : xv} (h : x_sat ρ env) (hw : y_wi g env v = true) : x_s1 g (x_vl ρ v) := by
  unfold y_wi at hw
  cases he : y_ent env v with
  | none => rw [he] at hw; cases hw
  | some e => rw [he] at hw; exact y_le_ok hw (y_ent_ok h he)
/-! as its elder, over the other heap; by program -/
section YYY
variable {h0 : yQ × ev_H}
/-- a step: what K does is a step of ours and then what next does -/
theorem y_S_of {scx : yX} {I : ev_I} {pc : Nat} {K : yK} (hK : ∀ L st h env kc ks outs, K L st h env kc ks = some outs → ∀ ρ sc Lc stc hc, y_rX env.length ρ scx sc → y_G h0 ρ env L st h Lc stc hc →
    ∃ (next : yK) (pc' : Nat) (ρ' : Nat → Int) (L' st' : List xv) (h' : yH) (env' : xE) (kc' ks' : Nat) (Lc' : ev_L) (stc' : List Value) (hc' : ev_H) (outs' : List yo), y_S h0 scx I pc' next ∧ x_ext env.length ρ ρ' ∧ env.length ≤ env'.length ∧ y_G h0 ρ' env' L' st' h' Lc' stc' hc' ∧ next L' st' h' env' kc' ks' = some outs' ∧ (∀ o ∈ outs', o ∈ outs) ∧
      ∀ Q, x_W sc I pc' Lc' stc' hc' kc' ks' Q → x_W sc I pc Lc stc hc kc ks Q) : y_S h0 scx I pc K := by
  intro L st h env kc ks outs hk ρ sc Lc stc hc hX hG Q hQ
  obtain ⟨next, pc', ρ', L', st', h', env', kc', ks', Lc', stc', hc', outs', g1, g2, g3, g4, g5, g6, g7⟩ := hK L st h env kc ks outs hk ρ sc Lc stc hc hX hG
  exact g7 Q (g1 L' st' h' env' kc' ks' outs' g5 ρ' sc Lc' stc' hc' (hX.up g2 g3) g4 Q (fun o ho => (hQ o (g6 o ho)).up g2 g3))
theorem y_G.up {ρ ρ' : Nat → Int} {env env' : xE} {L st st' : List xv} {h : yH} {Lc : ev_L} {stc stc' : List Value} {hc : ev_H} (hG : y_G h0 ρ env L st h Lc stc hc) (he : x_ext env.length ρ ρ') (hn : env.length ≤ env'.length) (hs : x_sat ρ' env') (hst : x_rS env'.length ρ' st' stc') : y_G h0 ρ' env' L st' h Lc stc' hc := ⟨hs, hG.2.1.up he hn, hst, hG.2.2.2.up he hn⟩
section XOP
variable {scx : yX} {rt ini mx na rc fr lo mc ms : Nat} {t : ev_T} {pc pp0 a b pp : Nat} {i : Instr} {v : Value} {next : yK}
/-- a step on the stack alone -/
theorem y_S_s (hf : ev_f t pc = some (pp0, i, a, b, pp, v)) (hn : y_S h0 scx (rt, ini, mx, na, rc, fr, lo, mc, ms, t) (pc + ev_len i) next) {K : yK} (hK : ∀ L st h env kc ks outs, K L st h env kc ks = some outs → ∀ ρ stc, x_sat ρ env → x_rS env.length ρ st stc →
    ∃ (ρ' : Nat → Int) (st' : List xv) (env' : xE) (stc' : List Value) (outs' : List yo), x_ext env.length ρ ρ' ∧ env.length ≤ env'.length ∧ x_sat ρ' env' ∧ x_rS env'.length ρ' st' stc' ∧ ev_s i v stc = some stc' ∧ next L st' h env' kc ks = some outs' ∧ ∀ o ∈ outs', o ∈ outs) : y_S h0 scx (rt, ini, mx, na, rc, fr, lo, mc, ms, t) pc K := by
  refine y_S_of fun L st h env kc ks outs hk ρ sc Lc stc hc hX hG => ?_
  obtain ⟨ρ', st', env', stc', outs', g1, g2, g3, g4, g5, g6, g7⟩ := hK L st h env kc ks outs hk ρ stc hG.1 hG.2.2.1
  exact ⟨next, _, ρ', L, st', h, env', kc, ks, Lc, stc', hc, outs', hn, g1, g2, hG.up g1 g2 g3 g4, g6, g7, fun Q hQ => x_W_s hf g5 hQ⟩
def yo_push (w : xv) (next : yK) : yK := fun L st h env kc ks => next L (w :: st) h env kc ks
theorem ys_push (hf : ev_f t pc = some (pp0, i, a, b, pp, v)) (hn : y_S h0 scx (rt, ini, mx, na, rc, fr, lo, mc, ms, t) (pc + ev_len i) next) {w : xv} (hw : w.2.1 = 0) (hs : ∀ ρ stc, ev_s i v stc = some (x_in ρ w :: stc)) : y_S h0 scx (rt, ini, mx, na, rc, fr, lo, mc, ms, t) pc (yo_push w next) :=
  y_S_s hf hn fun L st h env kc ks outs hk ρ stc hsat hst => ⟨ρ, w :: st, env, x_in ρ w :: stc, outs, x_ext.rf, Nat.le_refl _, hsat, ⟨by rw [hst.1]; rfl, List.forall_mem_cons.mpr ⟨by show w.2.1 ≤ _; rw [hw]; exact Nat.zero_le _, hst.2⟩⟩, hs ρ stc, hk, fun _ h => h⟩
def yo_bin (ka kb : Nat) (g : xE → xv → xv → Option (xv × xE)) (next : yK) : yK := fun L st h env kc ks => match st with
  | b :: st' => match st' with
    | a :: r => match Nat.beq b.1 kb && Nat.beq a.1 ka with
      | true => match g env a b with
        | some p => next L (p.1 :: r) h p.2 kc ks
        | none => none
      | false => none
    | [] => none
  | [] => none
theorem ys_bin (hf : ev_f t pc = some (pp0, i, a, b, pp, v)) (hn : y_S h0 scx (rt, ini, mx, na, rc, fr, lo, mc, ms, t) (pc + ev_len i) next) {ka kb : Nat} {g : xE → xv → xv → Option (xv × xE)} (hg : x_g2 ka kb (ev_s i v) g) : y_S h0 scx (rt, ini, mx, na, rc, fr, lo, mc, ms, t) pc (yo_bin ka kb g next) :=
  y_S_s hf hn fun L st h env kc ks outs hk ρ stc hsat hst => by
    unfold yo_bin at hk
    split at hk
    · rename_i y st'
      split at hk
      · rename_i x r
        split at hk
        · rename_i hq
          split at hk
          · rename_i p hp
            rw [Bool.and_eq_true] at hq
            have q1 := Nat.eq_of_beq_eq_true hq.1
            have q2 := Nat.eq_of_beq_eq_true hq.2
            have o1 := hst.2 x (by simp)
            have o2 := hst.2 y (by simp)
            obtain ⟨ρ', g1, g2, g3, g4, g5⟩ := hg env x y p ρ hp q2 q1 hsat o1 o2
            have hr : ∀ z ∈ r, x_ok env.length z := fun z hz => hst.2 z (by simp [hz])
            refine ⟨ρ', p.1 :: r, p.2, x_in ρ' p.1 :: r.map (x_in ρ), outs, g1, g2, g3, ⟨by rw [List.map_cons, x_map_ext g1 hr], List.forall_mem_cons.mpr ⟨g4, fun z hz => (hr z hz).up g2⟩⟩, ?_, hk, fun _ h => h⟩
            rw [hst.1, List.map_cons, List.map_cons, g5]
          · cases hk
        · cases hk
      · cases hk
    · cases hk
def yo_un (k : Nat) (g : xE → xv → Option (xv × xE)) (next : yK) : yK := fun L st h env kc ks => match st with
  | a :: r => match Nat.beq a.1 k with
    | true => match g env a with
      | some p => next L (p.1 :: r) h p.2 kc ks
      | none => none
    | false => none
  | [] => none
theorem ys_un (hf : ev_f t pc = some (pp0, i, a, b, pp, v)) (hn : y_S h0 scx (rt, ini, mx, na, rc, fr, lo, mc, ms, t) (pc + ev_len i) next) {k : Nat} {g : xE → xv → Option (xv × xE)} (hg : x_g1 k (ev_s i v) g) : y_S h0 scx (rt, ini, mx, na, rc, fr, lo, mc, ms, t) pc (yo_un k g next) :=
  y_S_s hf hn fun L st h env kc ks outs hk ρ stc hsat hst => by
    unfold yo_un at hk
    split at hk
    · rename_i x r
      split at hk
      · rename_i hq
        split at hk
        · rename_i p hp
          have q1 := Nat.eq_of_beq_eq_true hq
          have o1 := hst.2 x (by simp)
          obtain ⟨ρ', g1, g2, g3, g4, g5⟩ := hg env x p ρ hp q1 hsat o1
          have hr : ∀ z ∈ r, x_ok env.length z := fun z hz => hst.2 z (by simp [hz])
          refine ⟨ρ', p.1 :: r, p.2, x_in ρ' p.1 :: r.map (x_in ρ), outs, g1, g2, g3, ⟨by rw [List.map_cons, x_map_ext g1 hr], List.forall_mem_cons.mpr ⟨g4, fun z hz => (hr z hz).up g2⟩⟩, ?_, hk, fun _ h => h⟩
          rw [hst.1, List.map_cons, g5]
        · cases hk
      · cases hk
    · cases hk
def yo_dup (next : yK) : yK := fun L st h env kc ks => match st with
  | a :: r => match Nat.beq a.1 0 || Nat.beq a.1 2 with
    | true => next L (a :: a :: r) h env kc ks
    | false => none
  | [] => none
def yo_pop (next : yK) : yK := fun L st h env kc ks => match st with
  | a :: r => match Nat.beq a.1 0 with
    | true => next L r h env kc ks
    | false => none
  | [] => none
def yo_dup2 (next : yK) : yK := fun L st h env kc ks => match st with
  | b :: st' => match st' with
    | a :: r => match Nat.beq b.1 0 && (Nat.beq a.1 0 || Nat.beq a.1 2) with
      | true => next L (b :: a :: b :: a :: r) h env kc ks
      | false => none
    | [] => none
  | [] => none
theorem ys_dup (hf : ev_f t pc = some (pp0, .dup, a, b, pp, v)) (hn : y_S h0 scx (rt, ini, mx, na, rc, fr, lo, mc, ms, t) (pc + 1) next) : y_S h0 scx (rt, ini, mx, na, rc, fr, lo, mc, ms, t) pc (yo_dup next) :=
  y_S_s hf hn fun L st h env kc ks outs hk ρ stc hsat hst => by
    unfold yo_dup at hk
    split at hk
    · rename_i x r
      split at hk
      · rename_i hq
        refine ⟨ρ, x :: x :: r, env, x_in ρ x :: x_in ρ x :: r.map (x_in ρ), outs, x_ext.rf, Nat.le_refl _, hsat, ⟨rfl, List.forall_mem_cons.mpr ⟨hst.2 x (by simp), hst.2⟩⟩, ?_, hk, fun _ h => h⟩
        rw [hst.1, List.map_cons]
        rcases x_or02 hq with h | h
        · rw [x_in0 h]; rfl
        · rw [x_in2 h]; rfl
      · cases hk
    · cases hk
theorem ys_pop (hf : ev_f t pc = some (pp0, .pop, a, b, pp, v)) (hn : y_S h0 scx (rt, ini, mx, na, rc, fr, lo, mc, ms, t) (pc + 1) next) : y_S h0 scx (rt, ini, mx, na, rc, fr, lo, mc, ms, t) pc (yo_pop next) :=
  y_S_s hf hn fun L st h env kc ks outs hk ρ stc hsat hst => by
    unfold yo_pop at hk
    split at hk
    · rename_i x r
      split at hk
      · rename_i hq
        refine ⟨ρ, r, env, r.map (x_in ρ), outs, x_ext.rf, Nat.le_refl _, hsat, ⟨rfl, fun z hz => hst.2 z (by simp [hz])⟩, ?_, hk, fun _ h => h⟩
        rw [hst.1, List.map_cons, x_in0 (Nat.eq_of_beq_eq_true hq)]
        rfl
      · cases hk
    · cases hk
theorem ys_dup2 (hf : ev_f t pc = some (pp0, .dup2, a, b, pp, v)) (hn : y_S h0 scx (rt, ini, mx, na, rc, fr, lo, mc, ms, t) (pc + 1) next) : y_S h0 scx (rt, ini, mx, na, rc, fr, lo, mc, ms, t) pc (yo_dup2 next) :=
  y_S_s hf hn fun L st h env kc ks outs hk ρ stc hsat hst => by
    unfold yo_dup2 at hk
    split at hk
    · rename_i y st'
      split at hk
      · rename_i x r
        split at hk
        · rename_i hq
          rw [Bool.and_eq_true] at hq
          refine ⟨ρ, y :: x :: y :: x :: r, env, x_in ρ y :: x_in ρ x :: x_in ρ y :: x_in ρ x :: r.map (x_in ρ), outs, x_ext.rf, Nat.le_refl _, hsat, ⟨rfl, List.forall_mem_cons.mpr ⟨hst.2 y (by simp), List.forall_mem_cons.mpr ⟨hst.2 x (by simp), hst.2⟩⟩⟩, ?_, hk, fun _ h => h⟩
          rw [hst.1, List.map_cons, List.map_cons, x_in0 (Nat.eq_of_beq_eq_true hq.1)]
          rcases x_or02 hq.2 with h | h
          · rw [x_in0 h]; rfl
          · rw [x_in2 h]; rfl
        · cases hk
      · cases hk
    · cases hk
end XOP

end YYY
/-! as its elder, over the other heap; by program -/
section YYY
variable {h0 : yQ × ev_H}
section XLO
variable {scx : yX} {rt ini mx na rc fr lo mc ms : Nat} {t : ev_T} {pc pp0 a b pp : Nat} {i : Instr} {v : Value} {next : yK}
/-- a step on locals and stack, no new symbol -/
theorem y_S_l (hf : ev_f t pc = some (pp0, i, a, b, pp, v)) (hn : y_S h0 scx (rt, ini, mx, na, rc, fr, lo, mc, ms, t) (pc + ev_len i) next) {K : yK} (hK : ∀ L st h env kc ks outs, K L st h env kc ks = some outs → ∀ ρ Lc stc, x_sat ρ env → x_rL env.length ρ L Lc → x_rS env.length ρ st stc →
    ∃ (L' st' : List xv) (Lc' : ev_L) (stc' : List Value), x_rL env.length ρ L' Lc' ∧ x_rS env.length ρ st' stc' ∧ ev_l i mx Lc stc = some (Lc', stc') ∧ next L' st' h env kc ks = some outs) : y_S h0 scx (rt, ini, mx, na, rc, fr, lo, mc, ms, t) pc K := by
  refine y_S_of fun L st h env kc ks outs hk ρ sc Lc stc hc hX hG => ?_
  obtain ⟨L', st', Lc', stc', g1, g2, g3, g4⟩ := hK L st h env kc ks outs hk ρ Lc stc hG.1 hG.2.1 hG.2.2.1
  exact ⟨next, _, ρ, L', st', h, env, kc, ks, Lc', stc', hc, outs, hn, x_ext.rf, Nat.le_refl _, ⟨hG.1, g1, g2, hG.2.2.2⟩, g4, fun _ h => h, fun Q hQ => x_W_l hf g3 hQ⟩
noncomputable def yo_ld (kd k : Nat) (next : yK) : yK := fun L st h env kc ks => match x_n L k with
  | some v => match Nat.beq v.1 kd with
    | true => next L (x_kv env v :: st) h env kc ks
    | false => none
  | none => none
noncomputable def yo_lda (k : Nat) (next : yK) : yK := fun L st h env kc ks => match x_n L k with
  | some v => match Nat.beq v.1 2 || Nat.beq v.1 3 with
    | true => next L (v :: st) h env kc ks
    | false => none
  | none => none
theorem ys_ld (hf : ev_f t pc = some (pp0, i, a, b, pp, v)) (hn : y_S h0 scx (rt, ini, mx, na, rc, fr, lo, mc, ms, t) (pc + ev_len i) next) {kd k : Nat} (h4 : kd < 4) (hs : ∀ ρ (x : xv) Lc stc, x.1 = kd → ev_lk Lc k = some (x_in ρ x) → ev_l i mx Lc stc = some (Lc, x_in ρ x :: stc)) : y_S h0 scx (rt, ini, mx, na, rc, fr, lo, mc, ms, t) pc (yo_ld kd k next) :=
  y_S_l hf hn fun L st h env kc ks outs hk ρ Lc stc hsat hL hst => by
    unfold yo_ld at hk
    split at hk
    · rename_i x hx
      split at hk
      · rename_i hq
        rw [x_n_eq] at hx
        have hq := Nat.eq_of_beq_eq_true hq
        obtain ⟨g1, g2⟩ := hL k x hx (by rw [hq]; exact h4)
        obtain ⟨k1, k2, k3, k4⟩ := x_kv_ok (v := x) hsat
        exact ⟨L, x_kv env x :: st, Lc, x_in ρ x :: stc, hL, ⟨by rw [hst.1, List.map_cons, k2], List.forall_mem_cons.mpr ⟨k4 _ g1, hst.2⟩⟩, hs ρ x Lc stc hq g2, hk⟩
      · cases hk
    · cases hk
theorem ys_lda (hf : ev_f t pc = some (pp0, i, a, b, pp, v)) (hn : y_S h0 scx (rt, ini, mx, na, rc, fr, lo, mc, ms, t) (pc + ev_len i) next) {k : Nat} (hs : ∀ ρ (x : xv) Lc stc, (x.1 = 2 ∨ x.1 = 3) → ev_lk Lc k = some (x_in ρ x) → ev_l i mx Lc stc = some (Lc, x_in ρ x :: stc)) : y_S h0 scx (rt, ini, mx, na, rc, fr, lo, mc, ms, t) pc (yo_lda k next) :=
  y_S_l hf hn fun L st h env kc ks outs hk ρ Lc stc hsat hL hst => by
    unfold yo_lda at hk
    split at hk
    · rename_i x hx
      split at hk
      · rename_i hq
        rw [x_n_eq] at hx
        have hq : x.1 = 2 ∨ x.1 = 3 := by
          rcases (Bool.or_eq_true _ _).mp hq with h | h
          · exact Or.inl (Nat.eq_of_beq_eq_true h)
          · exact Or.inr (Nat.eq_of_beq_eq_true h)
        obtain ⟨g1, g2⟩ := hL k x hx (by rcases hq with h | h <;> rw [h] <;> decide)
        exact ⟨L, x :: st, Lc, x_in ρ x :: stc, hL, ⟨by rw [hst.1]; rfl, List.forall_mem_cons.mpr ⟨g1, hst.2⟩⟩, hs ρ x Lc stc hq g2, hk⟩
      · cases hk
    · cases hk
noncomputable def yo_st (kd k mx : Nat) (next : yK) : yK := fun L st h env kc ks => match st with
  | v :: r => match Nat.beq v.1 kd && Nat.ble (k + 1) mx with
    | true => next (x_stl L k v) r h env kc ks
    | false => none
  | [] => none
theorem ys_st (hf : ev_f t pc = some (pp0, i, a, b, pp, v)) (hn : y_S h0 scx (rt, ini, mx, na, rc, fr, lo, mc, ms, t) (pc + ev_len i) next) {kd k : Nat} (hs : ∀ ρ (x : xv) Lc stc, x.1 = kd → k < mx → ev_l i mx Lc (x_in ρ x :: stc) = some (ev_s1 Lc k (x_in ρ x), stc)) : y_S h0 scx (rt, ini, mx, na, rc, fr, lo, mc, ms, t) pc (yo_st kd k mx next) :=
  y_S_l hf hn fun L st h env kc ks outs hk ρ Lc stc hsat hL hst => by
    unfold yo_st at hk
    split at hk
    · rename_i x r
      split at hk
      · rename_i hq
        rw [Bool.and_eq_true] at hq
        refine ⟨x_stl L k x, r, ev_s1 Lc k (x_in ρ x), r.map (x_in ρ), x_rL_s1 hL (hst.2 x (by simp)), ⟨rfl, fun z hz => hst.2 z (by simp [hz])⟩, ?_, hk⟩
        rw [hst.1, List.map_cons, hs ρ x Lc _ (Nat.eq_of_beq_eq_true hq.1) (Nat.le_of_ble_eq_true hq.2)]
      · cases hk
    · cases hk
noncomputable def yo_stL (k mx : Nat) (next : yK) : yK := fun L st h env kc ks => match st with
  | v :: r => match Nat.beq v.1 1 && Nat.ble (k + 2) mx with
    | true => next (x_u (9, 0, 0) (x_stl L k v) (k + 1)) r h env kc ks
    | false => none
  | [] => none
theorem ys_stL (hf : ev_f t pc = some (pp0, i, a, b, pp, v)) (hn : y_S h0 scx (rt, ini, mx, na, rc, fr, lo, mc, ms, t) (pc + ev_len i) next) {k : Nat} (hs : ∀ ρ (x : xv) Lc stc, x.1 = 1 → k + 1 < mx → ev_l i mx Lc (x_in ρ x :: stc) = some (ev_s2 Lc k (x_in ρ x), stc)) : y_S h0 scx (rt, ini, mx, na, rc, fr, lo, mc, ms, t) pc (yo_stL k mx next) :=
  y_S_l hf hn fun L st h env kc ks outs hk ρ Lc stc hsat hL hst => by
    unfold yo_stL at hk
    split at hk
    · rename_i x r
      split at hk
      · rename_i hq
        rw [Bool.and_eq_true] at hq
        refine ⟨_, r, ev_s2 Lc k (x_in ρ x), r.map (x_in ρ), x_rL_s2 hL (hst.2 x (by simp)), ⟨rfl, fun z hz => hst.2 z (by simp [hz])⟩, ?_, hk⟩
        rw [hst.1, List.map_cons, hs ρ x Lc _ (Nat.eq_of_beq_eq_true hq.1) (Nat.le_of_ble_eq_true hq.2)]
      · cases hk
    · cases hk
noncomputable def yo_inc (k mx : Nat) (d : Int) (next : yK) : yK := fun L st h env kc ks => match x_n L k with
  | some v => match Nat.beq v.1 0 && Nat.ble (k + 1) mx with
    | true => next (x_stl L k (0, v.2.1, v.2.2 + d)) st h env kc ks
    | false => none
  | none => none
theorem ys_inc {k : Nat} {d : Int} (hf : ev_f t pc = some (pp0, .iinc k d, a, b, pp, v)) (hn : y_S h0 scx (rt, ini, mx, na, rc, fr, lo, mc, ms, t) (pc + 3) next) : y_S h0 scx (rt, ini, mx, na, rc, fr, lo, mc, ms, t) pc (yo_inc k mx d next) :=
  y_S_l hf hn fun L st h env kc ks outs hk ρ Lc stc hsat hL hst => by
    unfold yo_inc at hk
    split at hk
    · rename_i x hx
      split at hk
      · rename_i hq
        rw [Bool.and_eq_true] at hq
        rw [x_n_eq] at hx
        have q1 := Nat.eq_of_beq_eq_true hq.1
        have q2 : k < mx := Nat.le_of_ble_eq_true hq.2
        obtain ⟨g1, g2⟩ := hL k x hx (by rw [q1]; decide)
        refine ⟨_, st, _, stc, x_rL_s1 (v := (0, x.2.1, x.2.2 + d)) hL g1, hst, ?_, hk⟩
        show (match ev_lk Lc k with
          | some (.int z) => if k < mx then some (ev_s1 Lc k (.int (z + Int32.ofInt d)), stc) else none
          | _ => none) = _
        rw [g2, x_in0 q1]
        dsimp only
        rw [if_pos q2, x_in0 rfl, ← Int32.ofInt_add]
        congr 5
        obtain ⟨kx, sx, ox⟩ := x
        cases sx with
        | zero => rfl
        | succ sx => show ρ sx + ox + d = ρ sx + (ox + d); omega
      · cases hk
    · cases hk
end XLO
def y_fk (o1 : Option xE) (f1 : xE → yR) (o2 : Option xE) (f2 : xE → yR) : yR := match o1 with
  | none => match o2 with
    | none => some []
    | some e2 => f2 e2
  | some e1 => match o2 with
    | none => f1 e1
    | some e2 => match f1 e1 with
      | none => none
      | some l1 => match f2 e2 with
        | none => none
        | some l2 => some (l1 ++ l2)
theorem y_fk_1 {o1 o2 : Option xE} {f1 f2 : xE → yR} {outs : List yo} (h : y_fk o1 f1 o2 f2 = some outs) {e : xE} (he : o1 = some e) : ∃ l, f1 e = some l ∧ ∀ o ∈ l, o ∈ outs := by
  subst he
  unfold y_fk at h
  dsimp only at h
  split at h
  · exact ⟨outs, h, fun _ z => z⟩
  · split at h
    · cases h
    · rename_i l1 h1
      split at h
      · cases h
      · cases h
        exact ⟨l1, h1, fun o z => List.mem_append_left _ z⟩
theorem y_fk_2 {o1 o2 : Option xE} {f1 f2 : xE → yR} {outs : List yo} (h : y_fk o1 f1 o2 f2 = some outs) {e : xE} (he : o2 = some e) : ∃ l, f2 e = some l ∧ ∀ o ∈ l, o ∈ outs := by
  subst he
  unfold y_fk at h
  dsimp only at h
  split at h
  · exact ⟨outs, h, fun _ z => z⟩
  · split at h
    · cases h
    · split at h
      · cases h
      · rename_i l2 h2
        cases h
        exact ⟨l2, h2, fun o z => List.mem_append_right _ z⟩
/-- three roads of a comparison of longs -/
noncomputable def yo_lcmp (next : yK) : yK := fun L st h env kc ks => match st with
  | b :: st' => match st' with
    | a :: r => match Nat.beq b.1 1 && (Nat.beq a.1 1 && (x_wi (-9223372036854775808) 9223372036854775807 env a && x_wi (-9223372036854775808) 9223372036854775807 env b)) with
      | true => y_fk (x_rl 1 env a b) (fun e => next L ((0, 0, -1) :: r) h e kc ks) (x_rl 0 env b a) (fun e => y_fk (x_rl 1 e b a) (fun e => next L ((0, 0, 1) :: r) h e kc ks) (x_re e a b) (fun e => next L ((0, 0, 0) :: r) h e kc ks))
      | false => none
    | [] => none
  | [] => none
section XLC
variable {scx : yX} {rt ini mx na rc fr lo mc ms : Nat} {t : ev_T} {pc pp0 a b pp : Nat} {i : Instr} {v : Value} {next : yK}
theorem ys_lcmp (hf : ev_f t pc = some (pp0, .lcmp, a, b, pp, v)) (hn : y_S h0 scx (rt, ini, mx, na, rc, fr, lo, mc, ms, t) (pc + 1) next) : y_S h0 scx (rt, ini, mx, na, rc, fr, lo, mc, ms, t) pc (yo_lcmp next) :=
  y_S_s hf hn fun L st h env kc ks outs hk ρ stc hsat hst => by
    unfold yo_lcmp at hk
    split at hk
    · rename_i y st'
      split at hk
      · rename_i x r
        split at hk
        · rename_i hq
          simp only [Bool.and_eq_true] at hq
          obtain ⟨q1, q2, q3, q4⟩ := hq
          have q1 := Nat.eq_of_beq_eq_true q1
          have q2 := Nat.eq_of_beq_eq_true q2
          obtain ⟨w1, w2⟩ := x_wi_ok hsat q3
          obtain ⟨w3, w4⟩ := x_wi_ok hsat q4
          have ex := x_i64 w1 w2
          have ey := x_i64 w3 w4
          have hr : ∀ z ∈ r, x_ok env.length z := fun z hz => hst.2 z (by simp [hz])
          have fin : ∀ (env' : xE) (k : Int) (z : Int32) (l : List yo), Int32.ofInt k = z → x_sat ρ env' → env'.length = env.length → lg_cmp (Int64.ofInt (x_vl ρ x)) (Int64.ofInt (x_vl ρ y)) = z → next L ((0, 0, k) :: r) h env' kc ks = some l → (∀ o ∈ l, o ∈ outs) → ∃ (ρ' : Nat → Int) (st' : List xv) (env' : xE) (stc' : List Value) (outs' : List yo), x_ext env.length ρ ρ' ∧ env.length ≤ env'.length ∧ x_sat ρ' env' ∧ x_rS env'.length ρ' st' stc' ∧ ev_s .lcmp v stc = some stc' ∧ next L st' h env' kc ks = some outs' ∧ ∀ o ∈ outs', o ∈ outs := by
            intro env' k z l hkz hs' hl' hcmp hnx hm
            refine ⟨ρ, (0, 0, k) :: r, env', .int z :: r.map (x_in ρ), l, x_ext.rf, by rw [hl']; exact Nat.le_refl _, hs', ⟨by rw [List.map_cons, x_in0 rfl, ← hkz]; rfl, List.forall_mem_cons.mpr ⟨Nat.zero_le _, fun z hz => by rw [hl']; exact hr z hz⟩⟩, ?_, hnx, hm⟩
            rw [hst.1, List.map_cons, List.map_cons, x_in1 q1, x_in1 q2]
            exact x_lc hcmp _
          by_cases h1 : x_vl ρ x < x_vl ρ y
          · obtain ⟨e1, g1, g2, g3⟩ := x_rl_ok (k := 1) (a := x) (b := y) hsat (by omega)
            obtain ⟨l, l1, l2⟩ := y_fk_1 hk g1
            refine fin e1 (-1) (-1) l (by decide) g2 g3 ?_ l1 l2
            unfold lg_cmp
            rw [if_neg (fun z => by have z := Int64.lt_iff_toInt_lt.mp z; omega), if_neg (fun z => by have z := congrArg Int64.toInt z; omega)]
          · obtain ⟨e1, g1, g2, g3⟩ := x_rl_ok (k := 0) (a := y) (b := x) hsat (by omega)
            obtain ⟨l, l1, l2⟩ := y_fk_2 hk g1
            by_cases h2 : x_vl ρ y < x_vl ρ x
            · obtain ⟨e2, i1, i2, i3⟩ := x_rl_ok (k := 1) (a := y) (b := x) g2 (by omega)
              obtain ⟨l', j1, j2⟩ := y_fk_1 l1 i1
              refine fin e2 1 1 l' (by decide) i2 (i3.trans g3) ?_ j1 (fun o z => l2 o (j2 o z))
              unfold lg_cmp
              rw [if_pos (show Int64.ofInt (x_vl ρ y) < Int64.ofInt (x_vl ρ x) from Int64.lt_iff_toInt_lt.mpr (by omega))]
            · obtain ⟨e2, i1, i2, i3⟩ := x_re_ok (a := x) (b := y) g2 (by omega)
              obtain ⟨l', j1, j2⟩ := y_fk_2 l1 i1
              refine fin e2 0 0 l' (by decide) i2 (i3.trans g3) ?_ j1 (fun o z => l2 o (j2 o z))
              unfold lg_cmp
              rw [if_neg (fun z => by have z := Int64.lt_iff_toInt_lt.mp z; omega), if_pos (by rw [show x_vl ρ x = x_vl ρ y by omega])]
        · cases hk
      · cases hk
    · cases hk
end XLC

end YYY
/-! as its elder, over the other heap; by program -/
section YYY
variable {h0 : yQ × ev_H}
/-- where a comparison of a and b leads -/
noncomputable def y_br (c : ClassFile.Cond) (yes no : yK) (a b : xv) (L r : List xv) (h : yH) (env : xE) (kc ks : Nat) : yR := match a.2.1 + b.2.1 with
  | 0 => match x_rg a.2.2 && x_rg b.2.2 with
    | true => match x_cb c a.2.2 b.2.2 with
      | true => yes L r h env kc ks
      | false => no L r h env kc ks
    | false => none
  | _ + 1 => match x_wi (-2147483648) 2147483647 env a && x_wi (-2147483648) 2147483647 env b with
    | true => y_fk (x_ct c env a b) (fun e => yes L r h e kc ks) (x_cf c env a b) (fun e => no L r h e kc ks)
    | false => none
theorem y_br_ok {c : ClassFile.Cond} {yes no : yK} {a b : xv} {L r : List xv} {h : yH} {env : xE} {kc ks : Nat} {outs : List yo} (hb : y_br c yes no a b L r h env kc ks = some outs) {ρ : Nat → Int} (hsat : x_sat ρ env) :
    (-2147483648 ≤ x_vl ρ a ∧ x_vl ρ a ≤ 2147483647) ∧ (-2147483648 ≤ x_vl ρ b ∧ x_vl ρ b ≤ 2147483647) ∧ ((x_cp c (x_vl ρ a) (x_vl ρ b) ∧ ∃ env' l, x_sat ρ env' ∧ env'.length = env.length ∧ yes L r h env' kc ks = some l ∧ ∀ o ∈ l, o ∈ outs) ∨ (¬ x_cp c (x_vl ρ a) (x_vl ρ b) ∧ ∃ env' l, x_sat ρ env' ∧ env'.length = env.length ∧ no L r h env' kc ks = some l ∧ ∀ o ∈ l, o ∈ outs)) := by
  unfold y_br at hb
  split at hb
  · rename_i hz
    have za : a.2.1 = 0 := by omega
    have zb : b.2.1 = 0 := by omega
    rw [x_vl0 za, x_vl0 zb]
    split at hb
    · rename_i hr
      unfold x_rg at hr
      simp only [Bool.and_eq_true] at hr
      refine ⟨⟨x_le_iff.mp hr.1.1, x_le_iff.mp hr.1.2⟩, ⟨x_le_iff.mp hr.2.1, x_le_iff.mp hr.2.2⟩, ?_⟩
      split at hb
      · rename_i hc
        exact Or.inl ⟨x_cb_iff.mp hc, env, outs, hsat, rfl, hb, fun _ z => z⟩
      · rename_i hc
        exact Or.inr ⟨fun z => (by rw [x_cb_iff.mpr z] at hc; cases hc), env, outs, hsat, rfl, hb, fun _ z => z⟩
    · cases hb
  · split at hb
    · rename_i hr
      rw [Bool.and_eq_true] at hr
      refine ⟨x_wi_ok hsat hr.1, x_wi_ok hsat hr.2, ?_⟩
      by_cases hc : x_cp c (x_vl ρ a) (x_vl ρ b)
      · obtain ⟨e1, g1, g2, g3⟩ := x_ct_ok hsat hc
        obtain ⟨l, l1, l2⟩ := y_fk_1 hb g1
        exact Or.inl ⟨hc, e1, l, g2, g3, l1, l2⟩
      · obtain ⟨e1, g1, g2, g3⟩ := x_cf_ok hsat hc
        obtain ⟨l, l1, l2⟩ := y_fk_2 hb g1
        exact Or.inr ⟨hc, e1, l, g2, g3, l1, l2⟩
    · cases hb
noncomputable def yo_ic (c : ClassFile.Cond) (yes no : yK) : yK := fun L st h env kc ks => match st with
  | b :: st' => match st' with
    | a :: r => match Nat.beq b.1 0 && Nat.beq a.1 0 with
      | true => y_br c yes no a b L r h env kc ks
      | false => none
    | [] => none
  | [] => none
noncomputable def yo_if (c : ClassFile.Cond) (yes no : yK) : yK := fun L st h env kc ks => match st with
  | a :: r => match Nat.beq a.1 0 with
    | true => y_br c yes no a (0, 0, 0) L r h env kc ks
    | false => none
  | [] => none
section XJU
variable {scx : yX} {rt ini mx na rc fr lo mc ms : Nat} {t : ev_T} {pc pp0 a b pp : Nat} {i : Instr} {v : Value} {next : yK}
theorem ys_ic {c : ClassFile.Cond} {off : Int} {yes no : yK} (hf : ev_f t pc = some (pp0, .if_icmp c off, a, b, pp, v)) (hy : y_S h0 scx (rt, ini, mx, na, rc, fr, lo, mc, ms, t) a yes) (hn : y_S h0 scx (rt, ini, mx, na, rc, fr, lo, mc, ms, t) (pc + 3) no) : y_S h0 scx (rt, ini, mx, na, rc, fr, lo, mc, ms, t) pc (yo_ic c yes no) := by
  refine y_S_of fun L st h env kc ks outs hk ρ sc Lc stc hc hX hG => ?_
  unfold yo_ic at hk
  split at hk
  · rename_i y st'
    split at hk
    · rename_i x r
      split at hk
      · rename_i hq
        rw [Bool.and_eq_true] at hq
        obtain ⟨hsat, hL, hst, hh⟩ := hG
        obtain ⟨⟨x1, x2⟩, ⟨y1, y2⟩, hrd⟩ := y_br_ok hk hsat
        have hrr : x_rS env.length ρ r (r.map (x_in ρ)) := ⟨rfl, fun z hz => hst.2 z (by simp [hz])⟩
        have hstc : stc = .int (Int32.ofInt (x_vl ρ y)) :: .int (Int32.ofInt (x_vl ρ x)) :: r.map (x_in ρ) := by
          rw [hst.1, List.map_cons, List.map_cons, x_in0 (Nat.eq_of_beq_eq_true hq.1), x_in0 (Nat.eq_of_beq_eq_true hq.2)]
        obtain ⟨j1, j2⟩ := x_icj (c := c) (off := off) (pc := pc) (a := a) (r := r.map (x_in ρ)) x1 x2 y1 y2
        rcases hrd with ⟨hcp, env', l, e1, e2, e3, e4⟩ | ⟨hcp, env', l, e1, e2, e3, e4⟩
        · exact ⟨yes, a, ρ, L, r, h, env', kc, ks, Lc, r.map (x_in ρ), hc, l, hy, x_ext.rf, Nat.le_of_eq e2.symm, ⟨e1, by rw [e2]; exact hL, by rw [e2]; exact hrr, by rw [e2]; exact hh⟩, e3, e4, fun Q hQ => x_W_j hf (by rw [hstc]; exact j1 hcp) hQ⟩
        · exact ⟨no, pc + 3, ρ, L, r, h, env', kc, ks, Lc, r.map (x_in ρ), hc, l, hn, x_ext.rf, Nat.le_of_eq e2.symm, ⟨e1, by rw [e2]; exact hL, by rw [e2]; exact hrr, by rw [e2]; exact hh⟩, e3, e4, fun Q hQ => x_W_j hf (by rw [hstc]; exact j2 hcp) hQ⟩
      · cases hk
    · cases hk
  · cases hk
theorem ys_if {c : ClassFile.Cond} {off : Int} {yes no : yK} (hf : ev_f t pc = some (pp0, .ifCond c off, a, b, pp, v)) (hy : y_S h0 scx (rt, ini, mx, na, rc, fr, lo, mc, ms, t) a yes) (hn : y_S h0 scx (rt, ini, mx, na, rc, fr, lo, mc, ms, t) (pc + 3) no) : y_S h0 scx (rt, ini, mx, na, rc, fr, lo, mc, ms, t) pc (yo_if c yes no) := by
  refine y_S_of fun L st h env kc ks outs hk ρ sc Lc stc hc hX hG => ?_
  unfold yo_if at hk
  split at hk
  · rename_i x r
    split at hk
    · rename_i hq
      obtain ⟨hsat, hL, hst, hh⟩ := hG
      obtain ⟨⟨x1, x2⟩, ⟨y1, y2⟩, hrd⟩ := y_br_ok hk hsat
      have hrr : x_rS env.length ρ r (r.map (x_in ρ)) := ⟨rfl, fun z hz => hst.2 z (by simp [hz])⟩
      have hstc : stc = .int (Int32.ofInt (x_vl ρ x)) :: r.map (x_in ρ) := by
        rw [hst.1, List.map_cons, x_in0 (Nat.eq_of_beq_eq_true hq)]
      obtain ⟨j1, j2⟩ := x_icj (c := c) (off := off) (pc := pc) (a := a) (r := r.map (x_in ρ)) x1 x2 y1 y2
      have e0 : Int32.ofInt (x_vl ρ ((0, 0, 0) : xv)) = 0 := rfl
      rw [e0] at j1 j2
      rw [← x_ifj] at j1 j2
      rcases hrd with ⟨hcp, env', l, e1, e2, e3, e4⟩ | ⟨hcp, env', l, e1, e2, e3, e4⟩
      · exact ⟨yes, a, ρ, L, r, h, env', kc, ks, Lc, r.map (x_in ρ), hc, l, hy, x_ext.rf, Nat.le_of_eq e2.symm, ⟨e1, by rw [e2]; exact hL, by rw [e2]; exact hrr, by rw [e2]; exact hh⟩, e3, e4, fun Q hQ => x_W_j hf (by rw [hstc]; exact j1 hcp) hQ⟩
      · exact ⟨no, pc + 3, ρ, L, r, h, env', kc, ks, Lc, r.map (x_in ρ), hc, l, hn, x_ext.rf, Nat.le_of_eq e2.symm, ⟨e1, by rw [e2]; exact hL, by rw [e2]; exact hrr, by rw [e2]; exact hh⟩, e3, e4, fun Q hQ => x_W_j hf (by rw [hstc]; exact j2 hcp) hQ⟩
    · cases hk
  · cases hk
theorem ys_goto {off : Int} (hf : ev_f t pc = some (pp0, .goto off, a, b, pp, v)) (hn : y_S h0 scx (rt, ini, mx, na, rc, fr, lo, mc, ms, t) a next) : y_S h0 scx (rt, ini, mx, na, rc, fr, lo, mc, ms, t) pc next := by
  refine y_S_of fun L st h env kc ks outs hk ρ sc Lc stc hc hX hG => ?_
  exact ⟨next, a, ρ, L, st, h, env, kc, ks, Lc, stc, hc, outs, hn, x_ext.rf, Nat.le_refl _, hG, hk, fun _ z => z, fun Q hQ => x_W_j hf rfl hQ⟩
/-- the roads of a switch, one by one -/
noncomputable def y_swl (f : Nat → xE → yR) (a : xv) (tg : List Nat) : Int → xE → yR := List.rec (motive := fun _ => Int → xE → yR) (fun _ _ => some []) (fun t _ ih z e => y_fk (x_re e a (0, 0, z)) (f t) (some e) (fun e => ih (z + 1) e)) tg
theorem y_swl_ok {f : Nat → xE → yR} {a : xv} {ρ : Nat → Int} {tg : List Nat} : ∀ {z : Int} {env : xE} {outs : List yo} {j t : Nat}, y_swl f a tg z env = some outs → x_sat ρ env → tg[j]? = some t → x_vl ρ a = z + j → ∃ env' l, x_sat ρ env' ∧ env'.length = env.length ∧ f t env' = some l ∧ ∀ o ∈ l, o ∈ outs := by
  induction tg with
  | nil => intro z env outs j t h _ hj; cases hj
  | cons t0 ts ih =>
    intro z env outs j t h hsat hj hz
    have h : y_fk (x_re env a (0, 0, z)) (f t0) (some env) (fun e => y_swl f a ts (z + 1) e) = some outs := h
    cases j with
    | zero =>
      cases hj
      obtain ⟨e1, g1, g2, g3⟩ := x_re_ok (a := a) (b := (0, 0, z)) hsat (by show x_vl ρ a = z; omega)
      obtain ⟨l, l1, l2⟩ := y_fk_1 h g1
      exact ⟨e1, l, g2, g3, l1, l2⟩
    | succ j =>
      obtain ⟨l, l1, l2⟩ := y_fk_2 h rfl
      obtain ⟨env', l', i1, i2, i3, i4⟩ := ih (j := j) l1 hsat hj (by omega)
      exact ⟨env', l', i1, i2, i3, fun o z => l2 o (i4 o z)⟩
noncomputable def yo_sw (lo9 hi9 : Int) (dft : Nat) (tg : List Nat) (ih : Nat → yK) : yK := fun L st h env kc ks => match st with
  | a :: r => match Nat.beq a.1 0 && x_wi (-2147483648) 2147483647 env a with
    | true => y_fk (x_rl 1 env a (0, 0, lo9)) (fun e => ih dft L r h e kc ks) (x_rl 0 env (0, 0, lo9) a) (fun e => y_fk (x_rl 1 e (0, 0, hi9) a) (fun e => ih dft L r h e kc ks) (x_rl 0 e a (0, 0, hi9)) (fun e => y_swl (fun t e => ih t L r h e kc ks) a tg lo9 e))
    | false => none
  | [] => none
theorem ys_sw {d lo9 hi9 : Int} {offs : Array Int} {dft : Nat} {tg : List Nat} {ih : Nat → yK} (hf : ev_f t pc = some (pp0, .tableswitch d lo9 hi9 offs, a, b, pp, v)) (hd : (pc : Int) + d = (dft : Int)) (ht : offs.toList.map (fun o => (pc : Int) + o) = tg.map (fun (k : Nat) => (k : Int))) (hl : hi9 < lo9 + tg.length) (hi : ∀ p, y_S h0 scx (rt, ini, mx, na, rc, fr, lo, mc, ms, t) p (ih p)) : y_S h0 scx (rt, ini, mx, na, rc, fr, lo, mc, ms, t) pc (yo_sw lo9 hi9 dft tg ih) := by
  refine y_S_of fun L st h env kc ks outs hk ρ sc Lc stc hc hX hG => ?_
  unfold yo_sw at hk
  split at hk
  · rename_i x r
    split at hk
    · rename_i hq
      rw [Bool.and_eq_true] at hq
      obtain ⟨hsat, hL, hst, hh⟩ := hG
      obtain ⟨x1, x2⟩ := x_wi_ok hsat hq.2
      have ex := x_i32 x1 x2
      have hrr : x_rS env.length ρ r (r.map (x_in ρ)) := ⟨rfl, fun z hz => hst.2 z (by simp [hz])⟩
      have hstc : stc = .int (Int32.ofInt (x_vl ρ x)) :: r.map (x_in ρ) := by
        rw [hst.1, List.map_cons, x_in0 (Nat.eq_of_beq_eq_true hq.1)]
      have hj : ev_j (.tableswitch d lo9 hi9 offs) pc a stc = (if x_vl ρ x < lo9 ∨ hi9 < x_vl ρ x then match (pc : Int) + d with
        | .ofNat t => some (t, r.map (x_in ρ))
        | .negSucc _ => none
      else match offs.toList[(x_vl ρ x - lo9).toNat]? with
        | some o => match (pc : Int) + o with
          | .ofNat t => some (t, r.map (x_in ρ))
          | .negSucc _ => none
        | none => none) := by
        rw [hstc]
        show (if (Int32.ofInt (x_vl ρ x)).toInt < lo9 ∨ hi9 < (Int32.ofInt (x_vl ρ x)).toInt then _ else _) = _
        rw [ex]
        rfl
      have fin : ∀ (env' : xE) (p : Nat) (l : List yo), x_sat ρ env' → env'.length = env.length → ih p L r h env' kc ks = some l → (∀ o ∈ l, o ∈ outs) → ev_j (.tableswitch d lo9 hi9 offs) pc a stc = some (p, r.map (x_in ρ)) → ∃ (next : yK) (pc' : Nat) (ρ' : Nat → Int) (L' st' : List xv) (h' : yH) (env' : xE) (kc' ks' : Nat) (Lc' : ev_L) (stc' : List Value) (hc' : ev_H) (outs' : List yo), y_S h0 scx (rt, ini, mx, na, rc, fr, lo, mc, ms, t) pc' next ∧ x_ext env.length ρ ρ' ∧ env.length ≤ env'.length ∧ y_G h0 ρ' env' L' st' h' Lc' stc' hc' ∧ next L' st' h' env' kc' ks' = some outs' ∧ (∀ o ∈ outs', o ∈ outs) ∧
      ∀ Q, x_W sc (rt, ini, mx, na, rc, fr, lo, mc, ms, t) pc' Lc' stc' hc' kc' ks' Q → x_W sc (rt, ini, mx, na, rc, fr, lo, mc, ms, t) pc Lc stc hc kc ks Q := by
        intro env' p l e1 e2 e3 e4 e5
        exact ⟨ih p, p, ρ, L, r, h, env', kc, ks, Lc, r.map (x_in ρ), hc, l, hi p, x_ext.rf, Nat.le_of_eq e2.symm, ⟨e1, by rw [e2]; exact hL, by rw [e2]; exact hrr, by rw [e2]; exact hh⟩, e3, e4, fun Q hQ => x_W_j hf e5 hQ⟩
      by_cases h1 : x_vl ρ x < lo9
      · obtain ⟨e1, g1, g2, g3⟩ := x_rl_ok (k := 1) (a := x) (b := (0, 0, lo9)) hsat (by show x_vl ρ x + 1 ≤ lo9; omega)
        obtain ⟨l, l1, l2⟩ := y_fk_1 hk g1
        refine fin e1 dft l g2 g3 l1 l2 ?_
        rw [hj, if_pos (Or.inl h1), hd]
        try rfl
      · obtain ⟨e1, g1, g2, g3⟩ := x_rl_ok (k := 0) (a := (0, 0, lo9)) (b := x) hsat (by show lo9 + 0 ≤ x_vl ρ x; omega)
        obtain ⟨l, l1, l2⟩ := y_fk_2 hk g1
        by_cases h2 : hi9 < x_vl ρ x
        · obtain ⟨e2, i1, i2, i3⟩ := x_rl_ok (k := 1) (a := (0, 0, hi9)) (b := x) g2 (by show hi9 + 1 ≤ x_vl ρ x; omega)
          obtain ⟨l', j1, j2⟩ := y_fk_1 l1 i1
          refine fin e2 dft l' i2 (i3.trans g3) j1 (fun o z => l2 o (j2 o z)) ?_
          rw [hj, if_pos (Or.inr h2), hd]
          try rfl
        · obtain ⟨e2, i1, i2, i3⟩ := x_rl_ok (k := 0) (a := x) (b := (0, 0, hi9)) g2 (by show x_vl ρ x + 0 ≤ hi9; omega)
          obtain ⟨l', j1, j2⟩ := y_fk_2 l1 i1
          have hlt : (x_vl ρ x - lo9).toNat < tg.length := by omega
          obtain ⟨e3, l3, k1, k2, k3, k4⟩ := y_swl_ok (j := (x_vl ρ x - lo9).toNat) j1 i2 (List.getElem?_eq_getElem hlt) (by omega)
          refine fin e3 _ l3 k1 (k2.trans (i3.trans g3)) k3 (fun o z => l2 o (j2 o (k4 o z))) ?_
          rw [hj, if_neg (by omega)]
          have hz : (offs.toList.map (fun o => (pc : Int) + o))[(x_vl ρ x - lo9).toNat]? = some ((tg[(x_vl ρ x - lo9).toNat] : Nat) : Int) := by
            rw [ht, List.getElem?_map, List.getElem?_eq_getElem hlt]
            rfl
          rw [List.getElem?_map] at hz
          cases ho : offs.toList[(x_vl ρ x - lo9).toNat]? with
          | none => rw [ho] at hz; cases hz
          | some o =>
            rw [ho] at hz
            have hz : (pc : Int) + o = ((tg[(x_vl ρ x - lo9).toNat] : Nat) : Int) := Option.some.inj hz
            dsimp only
            rw [hz]
            try rfl
    · cases hk
  · cases hk
noncomputable def yo_ri (rt : Nat) : yK := fun _ st h env kc ks => match st with
  | v :: r => match r with
    | [] => match Nat.beq v.1 0 with
      | true => match rt with
        | 1 => some [(0, [], [v], h, env, kc, ks)]
        | 2 => match x_wi 0 1 env v with
          | true => some [(0, [], [v], h, env, kc, ks)]
          | false => none
        | 3 => match x_wi 0 65535 env v with
          | true => some [(0, [], [v], h, env, kc, ks)]
          | false => none
        | _ => none
      | false => none
    | _ :: _ => none
  | [] => none
theorem ys_ri (hf : ev_f t pc = some (pp0, .ireturn, a, b, pp, v)) : y_S h0 scx (rt, ini, mx, na, rc, fr, lo, mc, ms, t) pc (yo_ri rt) := by
  intro L st h env kc ks outs hk ρ sc Lc stc hc hX hG Q hQ
  unfold yo_ri at hk
  obtain ⟨hsat, hL, hst, hh⟩ := hG
  have fin : ∀ (x : xv), st = [x] → x.1 = 0 → outs = [(0, [], [x], h, env, kc, ks)] → ev_rok rt .ireturn [.int (Int32.ofInt (x_vl ρ x))] = some (some (.int (Int32.ofInt (x_vl ρ x)))) → x_W sc (rt, ini, mx, na, rc, fr, lo, mc, ms, t) pc Lc stc hc kc ks Q := by
    intro x e1 e2 e3 e4
    subst e1
    subst e3
    have hstc : stc = [.int (Int32.ofInt (x_vl ρ x))] := by rw [hst.1, List.map_cons, x_in0 e2]; rfl
    refine x_W_r hf (by rw [hstc]; exact e4) ?_
    have := hQ _ (List.mem_singleton.mpr rfl) ρ Lc stc hc x_ext.rf (Nat.le_refl _) ⟨hsat, fun k v hk => (by cases hk), hst, hh⟩
    rw [hstc] at this
    exact this
  split at hk
  · rename_i x r
    split at hk
    · split at hk
      · rename_i hq
        have hq := Nat.eq_of_beq_eq_true hq
        split at hk
        · exact fin x rfl hq (Option.some.inj hk).symm rfl
        · split at hk
          · rename_i hw
            obtain ⟨w1, w2⟩ := x_wi_ok hsat hw
            refine fin x rfl hq (Option.some.inj hk).symm ?_
            have : x_vl ρ x = 0 ∨ x_vl ρ x = 1 := by omega
            rcases this with z | z
            · rw [z]; rfl
            · rw [z]; rfl
          · cases hk
        · split at hk
          · rename_i hw
            obtain ⟨w1, w2⟩ := x_wi_ok hsat hw
            refine fin x rfl hq (Option.some.inj hk).symm ?_
            show (if narrow .char (.int (Int32.ofInt (x_vl ρ x))) = .int (Int32.ofInt (x_vl ρ x)) then some (some (Value.int (Int32.ofInt (x_vl ρ x)))) else none) = _
            rw [if_pos (x_nchar w1 w2)]
          · cases hk
        · cases hk
      · cases hk
    · cases hk
  · cases hk
def yo_rl (rt : Nat) : yK := fun _ st h env kc ks => match st with
  | v :: r => match r with
    | [] => match Nat.beq v.1 1 && Nat.beq rt 4 with
      | true => some [(0, [], [v], h, env, kc, ks)]
      | false => none
    | _ :: _ => none
  | [] => none
theorem ys_rl (hf : ev_f t pc = some (pp0, .lreturn, a, b, pp, v)) : y_S h0 scx (rt, ini, mx, na, rc, fr, lo, mc, ms, t) pc (yo_rl rt) := by
  intro L st h env kc ks outs hk ρ sc Lc stc hc hX hG Q hQ
  unfold yo_rl at hk
  obtain ⟨hsat, hL, hst, hh⟩ := hG
  split at hk
  · rename_i x r
    split at hk
    · split at hk
      · rename_i hq
        rw [Bool.and_eq_true] at hq
        have q2 := Nat.eq_of_beq_eq_true hq.2
        subst q2
        cases hk
        have hstc : stc = [.long (Int64.ofInt (x_vl ρ x))] := by rw [hst.1, List.map_cons, x_in1 (Nat.eq_of_beq_eq_true hq.1)]; rfl
        refine x_W_r hf (r := some (.long (Int64.ofInt (x_vl ρ x)))) (by rw [hstc]; rfl) ?_
        have := hQ _ (List.mem_singleton.mpr rfl) ρ Lc stc hc x_ext.rf (Nat.le_refl _) ⟨hsat, fun k v hk => (by cases hk), hst, hh⟩
        rw [hstc] at this
        exact this
      · cases hk
    · cases hk
  · cases hk
def yo_rv (rt : Nat) : yK := fun _ st h env kc ks => match st with
  | [] => match Nat.beq rt 0 with
    | true => some [(0, [], [], h, env, kc, ks)]
    | false => none
  | _ :: _ => none
theorem ys_rv (hf : ev_f t pc = some (pp0, .return_, a, b, pp, v)) : y_S h0 scx (rt, ini, mx, na, rc, fr, lo, mc, ms, t) pc (yo_rv rt) := by
  intro L st h env kc ks outs hk ρ sc Lc stc hc hX hG Q hQ
  unfold yo_rv at hk
  obtain ⟨hsat, hL, hst, hh⟩ := hG
  split at hk
  · split at hk
    · rename_i hq
      have q2 := Nat.eq_of_beq_eq_true hq
      subst q2
      cases hk
      have hstc : stc = [] := hst.1
      refine x_W_r hf (r := none) (by rw [hstc]; rfl) ?_
      have := hQ _ (List.mem_singleton.mpr rfl) ρ Lc stc hc x_ext.rf (Nat.le_refl _) ⟨hsat, fun k v hk => (by cases hk), hst, hh⟩
      rw [hstc] at this
      exact this
    · cases hk
  · cases hk
end XJU

end YYY
/-! cells of the other heap -/
def y_hu (e f : Int × Int × Bool) : Int × Int × Bool := match x_le e.1 e.2.1 with
  | false => (f.1, f.2.1, e.2.2 || f.2.2)
  | true => match x_le f.1 f.2.1 with
    | false => (e.1, e.2.1, e.2.2 || f.2.2)
    | true => (x_mn e.1 f.1, x_mx e.2.1 f.2.1, e.2.2 || f.2.2)
theorem y_hu_l {e f : Int × Int × Bool} {z : Int} (h : x_s1 e z) : x_s1 (y_hu e f) z := by
  unfold y_hu
  rcases h with ⟨h1, h2⟩ | ⟨h1, h2⟩
  · rw [x_le_iff.mpr (Int.le_trans h1 h2)]
    dsimp only
    cases x_le f.1 f.2.1 with
    | false => exact Or.inl ⟨h1, h2⟩
    | true => exact Or.inl ⟨Int.le_trans (x_mn_l _ _) h1, Int.le_trans h2 (x_mx_l _ _)⟩
  · cases x_le e.1 e.2.1 with
    | false => exact Or.inr ⟨by show (e.2.2 || f.2.2) = true; rw [h1]; rfl, h2⟩
    | true => cases x_le f.1 f.2.1 with
      | false => exact Or.inr ⟨by show (e.2.2 || f.2.2) = true; rw [h1]; rfl, h2⟩
      | true => exact Or.inr ⟨by show (e.2.2 || f.2.2) = true; rw [h1]; rfl, h2⟩
theorem y_hu_r {e f : Int × Int × Bool} {z : Int} (h : x_s1 f z) : x_s1 (y_hu e f) z := by
  unfold y_hu
  rcases h with ⟨h1, h2⟩ | ⟨h1, h2⟩
  · cases x_le e.1 e.2.1 with
    | false => exact Or.inl ⟨h1, h2⟩
    | true =>
      dsimp only
      rw [x_le_iff.mpr (Int.le_trans h1 h2)]
      exact Or.inl ⟨Int.le_trans (x_mn_r _ _) h1, Int.le_trans h2 (x_mx_r _ _)⟩
  · cases x_le e.1 e.2.1 with
    | false => exact Or.inr ⟨by show (e.2.2 || f.2.2) = true; rw [h1, Bool.or_true], h2⟩
    | true => cases x_le f.1 f.2.1 with
      | false => exact Or.inr ⟨by show (e.2.2 || f.2.2) = true; rw [h1, Bool.or_true], h2⟩
      | true => exact Or.inr ⟨by show (e.2.2 || f.2.2) = true; rw [h1, Bool.or_true], h2⟩
/-- the range of places a to a + m of a row -/
noncomputable def y_hi (d : List (List yF)) (a m : Nat) : Option (Int × Int × Bool) := Nat.rec (motive := fun _ => Option (Int × Int × Bool)) (match x_g d a with
  | some f => some f.2
  | none => none) (fun k ih => match ih with
  | none => none
  | some e => match x_g d (a + (k + 1)) with
    | some f => some (y_hu e f.2)
    | none => none) m
theorem y_hi_ok {d : List (List yF)} {a : Nat} : ∀ {m : Nat} {e : Int × Int × Bool}, y_hi d a m = some e → ∀ i, a ≤ i → i ≤ a + m → ∃ f, x_g d i = some f ∧ ∀ z, x_s1 f.2 z → x_s1 e z := by
  intro m
  induction m with
  | zero =>
    intro e h i h1 h2
    have hi : i = a := by omega
    subst hi
    have h : (match x_g d i with
      | some f => some f.2
      | none => none) = some e := h
    cases hf : x_g d i with
    | none => rw [hf] at h; cases h
    | some f => rw [hf] at h; cases h; exact ⟨f, rfl, fun _ z => z⟩
  | succ k ih =>
    intro e h i h1 h2
    have h : (match y_hi d a k with
      | none => none
      | some e => match x_g d (a + (k + 1)) with
        | some f => some (y_hu e f.2)
        | none => none) = some e := h
    cases he : y_hi d a k with
    | none => rw [he] at h; cases h
    | some e0 =>
      rw [he] at h
      dsimp only at h
      cases hf : x_g d (a + (k + 1)) with
      | none => rw [hf] at h; cases h
      | some f =>
        rw [hf] at h
        cases h
        by_cases hi : i = a + (k + 1)
        · subst hi
          exact ⟨f, hf, fun _ z => y_hu_r z⟩
        · obtain ⟨f', g1, g2⟩ := ih he i h1 (by omega)
          exact ⟨f', g1, fun _ z => y_hu_l (g2 _ z)⟩
/-- an array cell of this type and length -/
noncomputable def y_ac (g : yQ) (t q : Nat) : Option (Nat × List (List yF)) := match x_g g q with
  | some c => match Nat.beq c.1 0 && Nat.beq c.2.1 t with
    | true => some (c.2.2.1, c.2.2.2)
    | false => none
  | none => none
theorem y_ac_ok {g : yQ} {t q n : Nat} {d : List (List yF)} (h : y_ac g t q = some (n, d)) {hc : ev_H} (hi : y_in g hc) : (∃ c, x_g g q = some c ∧ c = (0, t, n, d)) ∧ ∃ xs : List Int32, hc[q]? = some (.inl (t, xs)) ∧ xs.length = n ∧ ∀ i f z, x_g d i = some f → xs[i]? = some z → x_s1 f.2 z.toInt := by
  unfold y_ac at h
  split at h
  · rename_i c hc9
    split at h
    · rename_i hb
      cases h
      rw [Bool.and_eq_true] at hb
      obtain ⟨c1, c2, c3, c4⟩ := c
      have b1 : c1 = 0 := Nat.eq_of_beq_eq_true hb.1
      have b2 : c2 = t := Nat.eq_of_beq_eq_true hb.2
      subst b1
      subst b2
      obtain ⟨cc, h1, xs, h2, h3, h4⟩ := hi q _ hc9
      subst h2
      exact ⟨⟨_, hc9, rfl⟩, xs, h1, h3, h4⟩
    · cases h
  · cases h
/-- the range over cells lo to lo + m, places a to a + k (below n) -/
noncomputable def y_hq (g : yQ) (t lo a k : Nat) (m : Nat) : Option (Int × Int × Bool) := Nat.rec (motive := fun _ => Option (Int × Int × Bool)) (match y_ac g t lo with
  | some p => match Nat.ble (a + k + 1) p.1 with
    | true => y_hi p.2 a k
    | false => none
  | none => none) (fun j ih => match ih with
  | none => none
  | some e => match y_ac g t (lo + (j + 1)) with
    | some p => match Nat.ble (a + k + 1) p.1 with
      | true => match y_hi p.2 a k with
        | some e' => some (y_hu e e')
        | none => none
      | false => none
    | none => none) m
theorem y_hq_ok {g : yQ} {t lo a k : Nat} {hc : ev_H} (hi : y_in g hc) : ∀ {m : Nat} {e : Int × Int × Bool}, y_hq g t lo a k m = some e → ∀ q i, lo ≤ q → q ≤ lo + m → a ≤ i → i ≤ a + k → ∃ (xs : List Int32) (z : Int32), hc[q]? = some (.inl (t, xs)) ∧ xs[i]? = some z ∧ x_s1 e z.toInt := by
  have base : ∀ {q : Nat} {p : Nat × List (List yF)} {e : Int × Int × Bool}, y_ac g t q = some p → Nat.ble (a + k + 1) p.1 = true → y_hi p.2 a k = some e → ∀ i, a ≤ i → i ≤ a + k → ∃ (xs : List Int32) (z : Int32), hc[q]? = some (.inl (t, xs)) ∧ xs[i]? = some z ∧ x_s1 e z.toInt := by
    intro q p e h1 h2 h3 i i1 i2
    obtain ⟨n, d⟩ := p
    obtain ⟨-, xs, g1, g2, g3⟩ := y_ac_ok h1 hi
    have h2 : a + k + 1 ≤ n := Nat.le_of_ble_eq_true h2
    have hl : i < xs.length := by omega
    obtain ⟨f, f1, f2⟩ := y_hi_ok h3 i i1 i2
    exact ⟨xs, xs[i], g1, List.getElem?_eq_getElem hl, f2 _ (g3 i f _ f1 (List.getElem?_eq_getElem hl))⟩
  intro m
  induction m with
  | zero =>
    intro e h q i q1 q2 i1 i2
    have hq : q = lo := by omega
    subst hq
    have h : (match y_ac g t q with
      | some p => match Nat.ble (a + k + 1) p.1 with
        | true => y_hi p.2 a k
        | false => none
      | none => none) = some e := h
    cases hp : y_ac g t q with
    | none => rw [hp] at h; cases h
    | some p =>
      rw [hp] at h
      dsimp only at h
      cases hb : Nat.ble (a + k + 1) p.1 with
      | false => rw [hb] at h; cases h
      | true => rw [hb] at h; exact base hp hb h i i1 i2
  | succ j ih =>
    intro e h q i q1 q2 i1 i2
    have h : (match y_hq g t lo a k j with
      | none => none
      | some e => match y_ac g t (lo + (j + 1)) with
        | some p => match Nat.ble (a + k + 1) p.1 with
          | true => match y_hi p.2 a k with
            | some e' => some (y_hu e e')
            | none => none
          | false => none
        | none => none) = some e := h
    cases he : y_hq g t lo a k j with
    | none => rw [he] at h; cases h
    | some e0 =>
      rw [he] at h
      dsimp only at h
      cases hp : y_ac g t (lo + (j + 1)) with
      | none => rw [hp] at h; cases h
      | some p =>
        rw [hp] at h
        dsimp only at h
        cases hb : Nat.ble (a + k + 1) p.1 with
        | false => rw [hb] at h; cases h
        | true =>
          rw [hb] at h
          dsimp only at h
          cases hh : y_hi p.2 a k with
          | none => rw [hh] at h; cases h
          | some e' =>
            rw [hh] at h
            cases h
            by_cases hq : q = lo + (j + 1)
            · subst hq
              obtain ⟨xs, z, g1, g2, g3⟩ := base hp hb hh i i1 i2
              exact ⟨xs, z, g1, g2, y_hu_r g3⟩
            · obtain ⟨xs, z, g1, g2, g3⟩ := ih he q i q1 (by omega) i1 i2
              exact ⟨xs, z, g1, g2, y_hu_l g3⟩
/-- within what its kind can be -/
noncomputable def y_rg (env : xE) (w : xv) : Bool := match w.1 with
  | 0 => x_wi (-2147483648) 2147483647 env w
  | 1 => x_wi (-9223372036854775808) 9223372036854775807 env w
  | _ => false
theorem y_rf_ok {f : yF} {env : xE} {w : xv} {ρ : Nat → Int} (hsat : x_sat ρ env) (h1 : f.1 = w.1) (h2 : y_wi f.2 env w = true) (h3 : y_rg env w = true) : y_rF f (x_in ρ w) := by
  have hs := y_wi_ok hsat h2
  unfold y_rg at h3
  unfold y_rF
  rw [h1]
  split at h3
  · rename_i hk
    obtain ⟨w1, w2⟩ := x_wi_ok hsat h3
    rw [hk, x_in0 hk]
    exact ⟨_, rfl, by rw [x_i32 w1 w2]; exact hs⟩
  · rename_i hk
    obtain ⟨w1, w2⟩ := x_wi_ok hsat h3
    rw [hk, x_in1 hk]
    exact ⟨_, rfl, by rw [x_i64 w1 w2]; exact hs⟩
  · cases h3
section YHE
variable {h0 : yQ × ev_H} {scx : yX} {rt ini mx na rc fr lo mc ms : Nat} {t : ev_T} {pc pp0 a b pp : Nat} {i : Instr} {v : Value} {next : yK}
theorem y_S_h (hf : ev_f t pc = some (pp0, i, a, b, pp, v)) (hn : y_S h0 scx (rt, ini, mx, na, rc, fr, lo, mc, ms, t) (pc + ev_len i) next) {K : yK} (hK : ∀ L st h env kc ks outs, K L st h env kc ks = some outs → ∀ ρ sc stc hc, y_rX env.length ρ scx sc → x_sat ρ env → x_rS env.length ρ st stc → y_rH h0 env.length ρ h hc →
    ∃ (ρ' : Nat → Int) (st' : List xv) (h' : yH) (env' : xE) (stc' : List Value) (hc' : ev_H) (outs' : List yo), x_ext env.length ρ ρ' ∧ env.length ≤ env'.length ∧ x_sat ρ' env' ∧ x_rS env'.length ρ' st' stc' ∧ y_rH h0 env'.length ρ' h' hc' ∧ ev_h sc i ini a b stc hc = some (stc', hc') ∧ next L st' h' env' kc ks = some outs' ∧ ∀ o ∈ outs', o ∈ outs) : y_S h0 scx (rt, ini, mx, na, rc, fr, lo, mc, ms, t) pc K := by
  refine y_S_of fun L st h env kc ks outs hk ρ sc Lc stc hc hX hG => ?_
  obtain ⟨ρ', st', h', env', stc', hc', outs', g1, g2, g3, g4, g5, g6, g7, g8⟩ := hK L st h env kc ks outs hk ρ sc stc hc hX hG.1 hG.2.2.1 hG.2.2.2
  exact ⟨next, _, ρ', L, st', h', env', kc, ks, Lc, stc', hc', outs', hn, g1, g2, ⟨g3, hG.2.1.up g1 g2, g4, g5⟩, g7, g8, fun Q hQ => x_W_h hf g6 hQ⟩
/-- an object's cell and a field of it -/
noncomputable def y_fl (g : yQ) (a b : Nat) (v : xv) : Option yF := match Nat.beq v.1 2 && Nat.beq v.2.1 0 with
  | true => match x_g g v.2.2.toNat with
    | some c => match Nat.beq c.1 2 && Nat.beq c.2.1 a with
      | true => x_g c.2.2.2 b
      | false => none
    | none => none
  | false => none
theorem y_fl_ok {g : yQ} {a b : Nat} {v : xv} {f : yF} (h : y_fl g a b v = some f) {hc : ev_H} (hi : y_in g hc) (ρ : Nat → Int) : x_in ρ v = .ref v.2.2.toNat ∧ ∃ (fs : List Value) (w : Value) (c : yC), x_g g v.2.2.toNat = some c ∧ c.1 = 2 ∧ c.2.1 = a ∧ x_g c.2.2.2 b = some f ∧ hc[v.2.2.toNat]? = some (.inr (.inr (a, fs))) ∧ fs[b]? = some w ∧ y_rF f w ∧ ∀ i f', x_g c.2.2.2 i = some f' → ∃ v', fs[i]? = some v' ∧ y_rF f' v' := by
  unfold y_fl at h
  split at h
  · rename_i hb
    rw [Bool.and_eq_true] at hb
    split at h
    · rename_i c hc9
      split at h
      · rename_i hb2
        rw [Bool.and_eq_true] at hb2
        obtain ⟨cc, g1, g2⟩ := hi _ c hc9
        obtain ⟨c1, c2, c3, c4⟩ := c
        have b1 : c1 = 2 := Nat.eq_of_beq_eq_true hb2.1
        have b2 : c2 = a := Nat.eq_of_beq_eq_true hb2.2
        subst b1
        subst b2
        obtain ⟨fs, e1, e2⟩ := g2
        subst e1
        obtain ⟨w, f1, f2⟩ := e2 b f h
        refine ⟨?_, fs, w, _, hc9, rfl, rfl, h, g1, f1, f2, e2⟩
        rw [x_in2 (Nat.eq_of_beq_eq_true hb.1), x_vl0 (Nat.eq_of_beq_eq_true hb.2)]
      · cases h
    · cases h
  · cases h
noncomputable def yo_gf (g : yQ) (a b : Nat) (next : yK) : yK := fun L st h env kc ks => match st with
  | v :: r => match y_fl g a b v with
    | some f => match f.1 with
      | 0 => match y_lk v.2.2.toNat b h.2.1 with
        | some w => next L (x_kv env w :: r) h env kc ks
        | none => next L ((x_nw 0 f.2 env).1 :: r) (h.1, (v.2.2.toNat, b, (x_nw 0 f.2 env).1) :: h.2.1, h.2.2) (x_nw 0 f.2 env).2 kc ks
      | 1 => match y_lk v.2.2.toNat b h.2.1 with
        | some w => next L (x_kv env w :: r) h env kc ks
        | none => next L ((x_nw 1 f.2 env).1 :: r) (h.1, (v.2.2.toNat, b, (x_nw 1 f.2 env).1) :: h.2.1, h.2.2) (x_nw 1 f.2 env).2 kc ks
      | _ => next L ((2, 0, f.2.1) :: r) h env kc ks
    | none => none
  | [] => none
theorem y_get_o {hc : ev_H} {q a b : Nat} {fs : List Value} (h : hc[q]? = some (.inr (.inr (a, fs)))) : y_get hc q b = fs[b]? := by
  unfold y_get
  rw [h]
theorem y_get_a {hc : ev_H} {q t b : Nat} {xs : List Int32} (h : hc[q]? = some (.inl (t, xs))) : y_get hc q b = (xs[b]?).map (fun z => .int z) := by
  unfold y_get
  rw [h]
theorem ys_gf {idx : Nat} (hf : ev_f t pc = some (pp0, .getfield idx, a, b, pp, v)) (hn : y_S h0 scx (rt, ini, mx, na, rc, fr, lo, mc, ms, t) (pc + 3) next) : y_S h0 scx (rt, ini, mx, na, rc, fr, lo, mc, ms, t) pc (yo_gf h0.1 a b next) :=
  y_S_h hf hn fun L st h env kc ks outs hk ρ sc stc hc hX hsat hst hh => by
    unfold yo_gf at hk
    split at hk
    · rename_i x r
      split at hk
      · rename_i f hfl
        obtain ⟨hin, hun, hca, hvn⟩ := hh
        obtain ⟨e1, fs, w0, c, c1, c2, c3, c4, e2, e3, e4, e5⟩ := y_fl_ok hfl hin ρ
        have hr : ∀ z ∈ r, x_ok env.length z := fun z hz => hst.2 z (by simp [hz])
        have hev : ev_h sc (.getfield idx) ini a b stc hc = some (w0 :: r.map (x_in ρ), hc) := by
          rw [hst.1, List.map_cons, e1]
          show (match hc[x.2.2.toNat]? with
            | some (.inr (.inr o)) => match Nat.beq o.1 a with
              | true => match o.2[b]? with
                | some v => some (v :: r.map (x_in ρ), hc)
                | none => none
              | false => none
            | _ => none) = _
          rw [e2]
          dsimp only
          rw [Nat.beq_refl]
          dsimp only
          rw [e3]
        have hcached : ∀ w, y_lk x.2.2.toNat b h.2.1 = some w → x_in ρ w = w0 ∧ x_ok env.length w := by
          intro w hw
          obtain ⟨k1, k2, k3⟩ := hca _ (y_lk_ok hw)
          have k3 : y_get hc x.2.2.toNat b = some (x_in ρ w) := k3
          rw [y_get_o e2, e3] at k3
          exact ⟨(Option.some.inj k3).symm, k2⟩
        have fin1 : ∀ w, y_lk x.2.2.toNat b h.2.1 = some w → next L (x_kv env w :: r) h env kc ks = some outs → ∃ (ρ' : Nat → Int) (st' : List xv) (h' : yH) (env' : xE) (stc' : List Value) (hc' : ev_H) (outs' : List yo), x_ext env.length ρ ρ' ∧ env.length ≤ env'.length ∧ x_sat ρ' env' ∧ x_rS env'.length ρ' st' stc' ∧ y_rH h0 env'.length ρ' h' hc' ∧ ev_h sc (.getfield idx) ini a b stc hc = some (stc', hc') ∧ next L st' h' env' kc ks = some outs' ∧ ∀ o ∈ outs', o ∈ outs := by
          intro w hw hk
          obtain ⟨k1, k2⟩ := hcached w hw
          obtain ⟨-, v2, -, v4⟩ := x_kv_ok (v := w) hsat
          exact ⟨ρ, x_kv env w :: r, h, env, w0 :: r.map (x_in ρ), hc, outs, x_ext.rf, Nat.le_refl _, hsat, ⟨by rw [List.map_cons, v2, k1], List.forall_mem_cons.mpr ⟨v4 _ k2, hr⟩⟩, ⟨hin, hun, hca, hvn⟩, hev, hk, fun _ z => z⟩
        have fin2 : ∀ (p : xv × xE) (ρ' : Nat → Int), x_ext env.length ρ ρ' → env.length ≤ p.2.length → x_sat ρ' p.2 → x_ok p.2.length p.1 → x_in ρ' p.1 = w0 → p.1.1 < 2 → next L (p.1 :: r) (h.1, (x.2.2.toNat, b, p.1) :: h.2.1, h.2.2) p.2 kc ks = some outs → ∃ (ρ' : Nat → Int) (st' : List xv) (h' : yH) (env' : xE) (stc' : List Value) (hc' : ev_H) (outs' : List yo), x_ext env.length ρ ρ' ∧ env.length ≤ env'.length ∧ x_sat ρ' env' ∧ x_rS env'.length ρ' st' stc' ∧ y_rH h0 env'.length ρ' h' hc' ∧ ev_h sc (.getfield idx) ini a b stc hc = some (stc', hc') ∧ next L st' h' env' kc ks = some outs' ∧ ∀ o ∈ outs', o ∈ outs := by
          intro p ρ' g1 g2 g3 g4 g5 g6 hk
          refine ⟨ρ', p.1 :: r, (h.1, (x.2.2.toNat, b, p.1) :: h.2.1, h.2.2), p.2, w0 :: r.map (x_in ρ), hc, outs, g1, g2, g3, ⟨by rw [List.map_cons, g5, x_map_ext g1 hr], List.forall_mem_cons.mpr ⟨g4, fun z hz => (hr z hz).up g2⟩⟩, ⟨hin, hun, ?_, hvn.up g1 g2⟩, hev, hk, fun _ z => z⟩
          intro e he
          rcases List.mem_cons.mp he with rfl | he
          · exact ⟨g6, g4, by rw [g5, ← e3]; exact y_get_o e2⟩
          · exact (hca.up g1 g2) e he
        split at hk
        · rename_i hk0
          split at hk
          · rename_i w hw
            exact fin1 w hw hk
          · obtain ⟨z, z1, z2⟩ : ∃ z : Int32, w0 = .int z ∧ x_s1 f.2 z.toInt := by
              unfold y_rF at e4
              rw [hk0] at e4
              exact e4
            obtain ⟨ρ', g1, g2, g3, g4, g5⟩ := x_nwi hsat z2
            exact fin2 (x_nw 0 f.2 env) ρ' g1 g2 g3 g4 (by rw [g5, z1]) (by show 0 < 2; decide) hk
        · rename_i hk1
          split at hk
          · rename_i w hw
            exact fin1 w hw hk
          · obtain ⟨z, z1, z2⟩ : ∃ z : Int64, w0 = .long z ∧ x_s1 f.2 z.toInt := by
              unfold y_rF at e4
              rw [hk1] at e4
              exact e4
            obtain ⟨ρ', g1, g2, g3, g4, g5⟩ := x_nwl hsat z2
            exact fin2 (x_nw 1 f.2 env) ρ' g1 g2 g3 g4 (by rw [g5, z1]) (by show 1 < 2; decide) hk
        · rename_i n0 n1
          have hw0 : w0 = .ref f.2.1.toNat := by
            unfold y_rF at e4
            split at e4
            · rename_i hz; exact absurd hz n0
            · rename_i hz; exact absurd hz n1
            · exact e4
          exact ⟨ρ, (2, 0, f.2.1) :: r, h, env, w0 :: r.map (x_in ρ), hc, outs, x_ext.rf, Nat.le_refl _, hsat, ⟨by rw [List.map_cons, x_in2 rfl, hw0]; rfl, List.forall_mem_cons.mpr ⟨Nat.zero_le _, hr⟩⟩, ⟨hin, hun, hca, hvn⟩, hev, hk, fun _ z => z⟩
      · cases hk
    · cases hk
noncomputable def yo_pf (g : yQ) (a b code : Nat) (next : yK) : yK := fun L st h env kc ks => match st with
  | w :: st' => match st' with
    | v :: r => match y_fl g a b v with
      | some f => match Nat.beq f.1 w.1 && (Nat.ble w.1 1 && (x_pk code env w && (y_wi f.2 env w && (y_md v.2.2.toNat b b h.1 && y_rg env w)))) with
        | true => next L r (h.1, (v.2.2.toNat, b, w) :: y_dr v.2.2.toNat v.2.2.toNat b b h.2.1, h.2.2) env kc ks
        | false => none
      | none => none
    | [] => none
  | [] => none
theorem ys_pf {idx code : Nat} (hf : ev_f t pc = some (pp0, .putfield idx, a, b, pp, v)) (hcode : x_pc a b ini = some code) (hn : y_S h0 scx (rt, ini, mx, na, rc, fr, lo, mc, ms, t) (pc + 3) next) : y_S h0 scx (rt, ini, mx, na, rc, fr, lo, mc, ms, t) pc (yo_pf h0.1 a b code next) :=
  y_S_h hf hn fun L st h env kc ks outs hk ρ sc stc hc hX hsat hst hh => by
    unfold yo_pf at hk
    split at hk
    · rename_i w st'
      split at hk
      · rename_i x r
        split at hk
        · rename_i f hfl
          split at hk
          · rename_i hq
            simp only [Bool.and_eq_true] at hq
            obtain ⟨q1, q2, q3, q4, q5, q6⟩ := hq
            obtain ⟨hin, hun, hca, hvn⟩ := hh
            obtain ⟨e1, fs, w0, c, c1, c2, c3, c4, e2, e3, e4, e5⟩ := y_fl_ok hfl hin ρ
            have hbl := (List.getElem?_eq_some_iff.mp e3).1
            have hql := (List.getElem?_eq_some_iff.mp e2).1
            obtain ⟨c9, ty, t1, t2, t3, t4, t5⟩ := x_pc_ok hcode hsat q3
            have hw : x_ok env.length w := hst.2 w (by simp)
            have q2 : w.1 ≤ 1 := Nat.le_of_ble_eq_true q2
            have q1 : f.1 = w.1 := Nat.eq_of_beq_eq_true q1
            have hrf : y_rF f (x_in ρ w) := y_rf_ok hsat q1 q4 q6
            have hg := y_get_setO (w := x_in ρ w) e2 hbl
            refine ⟨ρ, r, (h.1, (x.2.2.toNat, b, w) :: y_dr x.2.2.toNat x.2.2.toNat b b h.2.1, h.2.2), env, r.map (x_in ρ), hc.set x.2.2.toNat (.inr (.inr (a, fs.set b (x_in ρ w)))), outs, x_ext.rf, Nat.le_refl _, hsat, ⟨rfl, fun z hz => hst.2 z (by simp [hz])⟩, ⟨y_in_set hin (fun c' hc' => ?_) hql, fun q' i' hnc => ?_, fun e he => ?_, hvn⟩, ?_, hk, fun _ z => z⟩
            · rw [c1] at hc'
              cases hc'
              obtain ⟨k1, k2, k3, k4⟩ := c
              have c2 : k1 = 2 := c2
              have c3 : k2 = a := c3
              subst c2
              subst c3
              refine ⟨fs.set b (x_in ρ w), rfl, fun j f' hj => ?_⟩
              by_cases hjb : b = j
              · subst hjb
                have c4 : x_g k4 b = some f := c4
                have hj : x_g k4 b = some f' := hj
                rw [c4] at hj
                cases hj
                exact ⟨x_in ρ w, by rw [List.getElem?_set, if_pos rfl, if_pos hbl], hrf⟩
              · obtain ⟨v', v1, v2⟩ := e5 j f' hj
                exact ⟨v', by rw [List.getElem?_set, if_neg hjb]; exact v1, v2⟩
            · rw [hg]
              rw [if_neg]
              · exact hun q' i' hnc
              · rintro ⟨rfl, rfl⟩
                exact hnc (y_md_ok q5 _ (Nat.le_refl _) (Nat.le_refl _))
            · rcases List.mem_cons.mp he with rfl | he
              · exact ⟨by show w.1 < 2; omega, hw, by rw [hg, if_pos ⟨rfl, rfl⟩]⟩
              · obtain ⟨m1, m2⟩ := y_dr_ok he
                obtain ⟨k1, k2, k3⟩ := hca e m1
                refine ⟨k1, k2, ?_⟩
                rw [hg, if_neg]
                · exact k3
                · rintro ⟨z1, z2⟩
                  exact m2 (by rw [z1, z2]; exact ⟨Nat.le_refl _, Nat.le_refl _, Nat.le_refl _, Nat.le_refl _⟩)
            · rw [hst.1, List.map_cons, List.map_cons, e1]
              show (match hc[x.2.2.toNat]? with
                | some (.inr (.inr o)) => match Nat.beq o.1 a with
                  | true => if b < o.2.length then match vwCl[a]?, ev_tys[a]? with
                      | some c, some ty => if b < c.2.2 ∧ ((c.2.1 b).2.2.2 = false ∨ ini = a + 1) ∧ ev_pok (ty b) (x_in ρ w) = true then some (r.map (x_in ρ), hc.set x.2.2.toNat (.inr (.inr (a, o.2.set b (x_in ρ w))))) else none
                      | _, _ => none
                    else none
                  | false => none
                | _ => none) = _
              rw [e2]
              dsimp only
              rw [Nat.beq_refl]
              dsimp only
              rw [if_pos hbl, t1, t2]
              dsimp only
              rw [if_pos ⟨t3, t4, t5⟩]
          · cases hk
        · cases hk
      · cases hk
    · cases hk
end YHE
/-! arrays of the other heap -/
noncomputable def y_bn (env : xE) (v : xv) : Option (Nat × Nat) := match x_bd env v with
  | some p => match x_le 0 p.1 && x_le p.2 100000 with
    | true => some (p.1.toNat, p.2.toNat)
    | false => none
  | none => none
theorem y_bn_ok {env : xE} {v : xv} {a b : Nat} (h : y_bn env v = some (a, b)) {ρ : Nat → Int} (hsat : x_sat ρ env) : ∃ k : Nat, x_vl ρ v = (k : Int) ∧ a ≤ k ∧ k ≤ b ∧ k ≤ 100000 := by
  unfold y_bn at h
  split at h
  · rename_i p hp
    split at h
    · rename_i hb
      cases h
      rw [Bool.and_eq_true] at hb
      have h1 := x_le_iff.mp hb.1
      have h2 := x_le_iff.mp hb.2
      obtain ⟨l, u⟩ := p
      have h3 := x_bd_ok hsat hp
      exact ⟨(x_vl ρ v).toNat, by omega, by dsimp only; omega, by dsimp only; omega, by dsimp only at h2; omega⟩
    · cases h
  · cases h
theorem y_ixn {k : Nat} (h : k ≤ 2147483647) : (Int32.ofInt (k : Int)).toNatClampNeg = k ∧ ¬ Int32.ofInt (k : Int) < 0 := by
  have e := x_i32 (a := (k : Int)) (by omega) (by omega)
  refine ⟨by show (Int32.ofInt (k : Int)).toInt.toNat = _; rw [e]; omega, fun z => ?_⟩
  have z := Int32.lt_iff_toInt_lt.mp z
  rw [e] at z
  have e0 : (0 : Int32).toInt = 0 := by decide
  omega
section YAR
variable {h0 : yQ × ev_H} {scx : yX} {rt ini mx na rc fr lo mc ms : Nat} {t : ev_T} {pc pp0 a b pp : Nat} {i : Instr} {v : Value} {next : yK}
noncomputable def yo_al (g : yQ) (scx : yX) (t : Nat) (next : yK) : yK := fun L st h env kc ks => match st with
  | i :: st' => match st' with
    | v :: r => match Nat.beq v.1 3 with
      | true => match scx with
        | some x => match Nat.beq i.1 0 && (Nat.beq i.2.1 (x.1 + 1) && (x_le 0 i.2.2 && (x_le i.2.2 100000 && Nat.beq t 0))) with
          | true => match x_n x.2 i.2.2.toNat with
            | some w => next L (x_kv env w :: r) h env kc ks
            | none => none
          | false => none
        | none => none
      | false => match Nat.beq v.1 2 && Nat.beq i.1 0 with
        | true => match y_bn env v with
          | some q => match y_bn env i with
            | some k => match Nat.beq q.1 q.2 && Nat.beq k.1 k.2 with
              | true => match y_hq g t q.1 k.1 0 0 with
                | some e => match y_lk q.1 k.1 h.2.1 with
                  | some w => next L (x_kv env w :: r) h env kc ks
                  | none => next L ((x_nw 0 e env).1 :: r) (h.1, (q.1, k.1, (x_nw 0 e env).1) :: h.2.1, h.2.2) (x_nw 0 e env).2 kc ks
                | none => none
              | false => match y_hq g t q.1 k.1 (k.2 - k.1) (q.2 - q.1) with
                | some e => next L ((x_nw 0 e env).1 :: r) h (x_nw 0 e env).2 kc ks
                | none => none
            | none => none
          | none => none
        | false => none
    | [] => none
  | [] => none
theorem ys_al {t0 : Nat} (hf : ev_f t pc = some (pp0, i, a, b, pp, v)) (ht : x_aldi t0 = some i) (hlen : ev_len i = 1) (hn : y_S h0 scx (rt, ini, mx, na, rc, fr, lo, mc, ms, t) (pc + 1) next) : y_S h0 scx (rt, ini, mx, na, rc, fr, lo, mc, ms, t) pc (yo_al h0.1 scx t0 next) :=
  y_S_h hf (by rw [hlen]; exact hn) fun L st h env kc ks outs hk ρ sc stc hc hX hsat hst hh => by
    unfold yo_al at hk
    split at hk
    · rename_i ix st'
      split at hk
      · rename_i x r
        have hr : ∀ z ∈ r, x_ok env.length z := fun z hz => hst.2 z (by simp [hz])
        split at hk
        · rename_i h3
          split at hk
          · rename_i xx
            split at hk
            · rename_i hb
              simp only [Bool.and_eq_true] at hb
              obtain ⟨b1, b2, b3, b4, b5⟩ := hb
              have b1 := Nat.eq_of_beq_eq_true b1
              have b2 := Nat.eq_of_beq_eq_true b2
              have b3 := x_le_iff.mp b3
              have b4 := x_le_iff.mp b4
              have b5 := Nat.eq_of_beq_eq_true b5
              subst b5
              cases ht
              split at hk
              · rename_i w hw
                rw [x_n_eq] at hw
                obtain ⟨m1, m2, m3, xs, m4, m5⟩ := hX xx rfl
                obtain ⟨g1, g2, g3⟩ := m5 _ w hw
                obtain ⟨-, v2, -, v4⟩ := x_kv_ok (v := w) hsat
                have hvl : x_vl ρ ix = (((ρ xx.1).toNat + ix.2.2.toNat : Nat) : Int) := by
                  obtain ⟨ki, si, oi⟩ := ix
                  have b2 : si = xx.1 + 1 := b2
                  subst b2
                  show ρ xx.1 + oi = _
                  have b3 : 0 ≤ oi := b3
                  show ρ xx.1 + oi = (((ρ xx.1).toNat + oi.toNat : Nat) : Int)
                  omega
                obtain ⟨j2, j3⟩ := y_ixn (k := (ρ xx.1).toNat + ix.2.2.toNat) (by omega)
                refine ⟨ρ, x_kv env w :: r, h, env, x_in ρ w :: r.map (x_in ρ), hc, outs, x_ext.rf, Nat.le_refl _, hsat, ⟨by rw [List.map_cons, v2], List.forall_mem_cons.mpr ⟨v4 _ g2, hr⟩⟩, hh, ?_, hk, fun _ z => z⟩
                rw [hst.1, List.map_cons, List.map_cons, x_in0 b1, hvl, x_in3 (Nat.eq_of_beq_eq_true h3), m4, x_in0 g1]
                show (match ev_inn (Int32.ofInt (((ρ xx.1).toNat + ix.2.2.toNat : Nat) : Int)) xs.length with
                  | true => some (Value.int (xs.getD (Int32.ofInt (((ρ xx.1).toNat + ix.2.2.toNat : Nat) : Int)).toNatClampNeg 0) :: r.map (x_in ρ), hc)
                  | false => none) = _
                rw [x_inn j2 j3 (List.getElem?_eq_some_iff.mp g3).1, j2, List.getD_eq_getElem?_getD, g3]
                rfl
              · cases hk
            · cases hk
          · cases hk
        · split at hk
          · rename_i hb
            rw [Bool.and_eq_true] at hb
            have b1 := Nat.eq_of_beq_eq_true hb.1
            have b2 := Nat.eq_of_beq_eq_true hb.2
            split at hk
            · rename_i q hq
              split at hk
              · rename_i k hkk
                obtain ⟨ql, qu⟩ := q
                obtain ⟨kl, ku⟩ := k
                obtain ⟨q0, q1, q2, q3, q4⟩ := y_bn_ok hq hsat
                obtain ⟨k0, k1, k2, k3, k4⟩ := y_bn_ok hkk hsat
                obtain ⟨hin, hun, hca, hvn⟩ := hh
                obtain ⟨j2, j3⟩ := y_ixn (k := k0) (by omega)
                have hstc : ∀ (z : Int32) (xs : List Int32), hc[q0]? = some (.inl (t0, xs)) → xs[k0]? = some z → ev_h sc i ini a b stc hc = some (.int z :: r.map (x_in ρ), hc) := by
                  intro z xs g1 g2
                  rw [hst.1, List.map_cons, List.map_cons, x_in0 b2, x_in2 b1, q1, k1, Int.toNat_natCast]
                  exact x_ald_c ht j2 j3 g1 g2
                have fresh : ∀ (e : Int × Int × Bool) (z : Int32) (xs : List Int32), hc[q0]? = some (.inl (t0, xs)) → xs[k0]? = some z → x_s1 e z.toInt → ∀ (ka : yKa), (∀ ρ', x_ext env.length ρ ρ' → x_in ρ' (x_nw 0 e env).1 = .int z → x_ok (x_nw 0 e env).2.length (x_nw 0 e env).1 → env.length ≤ (x_nw 0 e env).2.length → y_ca (x_nw 0 e env).2.length ρ' ka hc) → next L ((x_nw 0 e env).1 :: r) (h.1, ka, h.2.2) (x_nw 0 e env).2 kc ks = some outs → ∃ (ρ' : Nat → Int) (st' : List xv) (h' : yH) (env' : xE) (stc' : List Value) (hc' : ev_H) (outs' : List yo), x_ext env.length ρ ρ' ∧ env.length ≤ env'.length ∧ x_sat ρ' env' ∧ x_rS env'.length ρ' st' stc' ∧ y_rH h0 env'.length ρ' h' hc' ∧ ev_h sc i ini a b stc hc = some (stc', hc') ∧ next L st' h' env' kc ks = some outs' ∧ ∀ o ∈ outs', o ∈ outs := by
                  intro e z xs g1 g2 g3 ka hka hk
                  obtain ⟨ρ', r1, r2, r3, r4, r5⟩ := x_nwi hsat g3
                  exact ⟨ρ', (x_nw 0 e env).1 :: r, (h.1, ka, h.2.2), (x_nw 0 e env).2, .int z :: r.map (x_in ρ), hc, outs, r1, r2, r3, ⟨by rw [List.map_cons, r5, x_map_ext r1 hr], List.forall_mem_cons.mpr ⟨r4, fun z hz => (hr z hz).up r2⟩⟩, ⟨hin, hun, hka ρ' r1 r5 r4 r2, hvn.up r1 r2⟩, hstc z xs g1 g2, hk, fun _ z => z⟩
                split at hk
                · rename_i hs
                  rw [Bool.and_eq_true] at hs
                  have s1 : ql = qu := Nat.eq_of_beq_eq_true hs.1
                  have s2 : kl = ku := Nat.eq_of_beq_eq_true hs.2
                  have eq0 : q0 = ql := by omega
                  have ek0 : k0 = kl := by omega
                  subst eq0
                  subst ek0
                  split at hk
                  · rename_i e he
                    obtain ⟨xs, z, g1, g2, g3⟩ := y_hq_ok hin he q0 k0 (Nat.le_refl _) (by omega) (Nat.le_refl _) (by omega)
                    split at hk
                    · rename_i w hw
                      obtain ⟨c1, c2, c3⟩ := hca _ (y_lk_ok hw)
                      have c3 : y_get hc q0 k0 = some (x_in ρ w) := c3
                      rw [y_get_a g1, g2] at c3
                      have c3 : x_in ρ w = .int z := (Option.some.inj c3).symm
                      obtain ⟨-, v2, -, v4⟩ := x_kv_ok (v := w) hsat
                      exact ⟨ρ, x_kv env w :: r, h, env, .int z :: r.map (x_in ρ), hc, outs, x_ext.rf, Nat.le_refl _, hsat, ⟨by rw [List.map_cons, v2, c3], List.forall_mem_cons.mpr ⟨v4 _ c2, hr⟩⟩, ⟨hin, hun, hca, hvn⟩, hstc z xs g1 g2, hk, fun _ z => z⟩
                    · refine fresh e z xs g1 g2 g3 _ (fun ρ' r1 r2 r3 r4 => ?_) hk
                      intro e' he'
                      rcases List.mem_cons.mp he' with rfl | he'
                      · exact ⟨by show 0 < 2; decide, r3, by rw [y_get_a g1, g2, r2]; rfl⟩
                      · exact (hca.up r1 r4) e' he'
                  · cases hk
                · split at hk
                  · rename_i e he
                    obtain ⟨xs, z, g1, g2, g3⟩ := y_hq_ok hin he q0 k0 (by omega) (by omega) (by omega) (by omega)
                    exact fresh e z xs g1 g2 g3 _ (fun ρ' r1 r2 r3 r4 => hca.up r1 r4) hk
                  · cases hk
              · cases hk
            · cases hk
          · cases hk
      · cases hk
    · cases hk
/-! stores -/
noncomputable def y_wr (e : Int × Int × Bool) (d : List (List yF)) (a m : Nat) : Bool := Nat.rec (motive := fun _ => Bool) (match x_g d a with
  | some f => y_le e f.2
  | none => false) (fun k ih => match ih with
  | false => false
  | true => match x_g d (a + (k + 1)) with
    | some f => y_le e f.2
    | none => false) m
theorem y_wr_ok {e : Int × Int × Bool} {d : List (List yF)} {a : Nat} : ∀ {m : Nat}, y_wr e d a m = true → ∀ i, a ≤ i → i ≤ a + m → ∃ f, x_g d i = some f ∧ y_le e f.2 = true := by
  intro m
  induction m with
  | zero =>
    intro h i h1 h2
    have hi : i = a := by omega
    subst hi
    have h : (match x_g d i with
      | some f => y_le e f.2
      | none => false) = true := h
    cases hf : x_g d i with
    | none => rw [hf] at h; cases h
    | some f => rw [hf] at h; exact ⟨f, rfl, h⟩
  | succ k ih =>
    intro h i h1 h2
    have h : (match y_wr e d a k with
      | false => false
      | true => match x_g d (a + (k + 1)) with
        | some f => y_le e f.2
        | none => false) = true := h
    cases he : y_wr e d a k with
    | false => rw [he] at h; cases h
    | true =>
      rw [he] at h
      by_cases hi : i = a + (k + 1)
      · subst hi
        dsimp only at h
        cases hf : x_g d (a + (k + 1)) with
        | none => rw [hf] at h; cases h
        | some f => rw [hf] at h; exact ⟨f, rfl, h⟩
      · exact ih he i h1 (by omega)
/-- cells lo to lo + m take e at places a to a + k, and may be written there -/
noncomputable def y_wq (g : yQ) (md : yMd) (t : Nat) (e : Int × Int × Bool) (lo a k : Nat) (m : Nat) : Bool := Nat.rec (motive := fun _ => Bool) (match y_ac g t lo with
  | some p => Nat.ble (a + k + 1) p.1 && (y_wr e p.2 a k && y_md lo a (a + k) md)
  | none => false) (fun j ih => match ih with
  | false => false
  | true => match y_ac g t (lo + (j + 1)) with
    | some p => Nat.ble (a + k + 1) p.1 && (y_wr e p.2 a k && y_md (lo + (j + 1)) a (a + k) md)
    | none => false) m
theorem y_wq_ok {g : yQ} {md : yMd} {t : Nat} {e : Int × Int × Bool} {lo a k : Nat} {hc : ev_H} (hi : y_in g hc) : ∀ {m : Nat}, y_wq g md t e lo a k m = true → ∀ q i, lo ≤ q → q ≤ lo + m → a ≤ i → i ≤ a + k → ∃ (n : Nat) (d : List (List yF)) (xs : List Int32) (f : yF), x_g g q = some (0, t, n, d) ∧ hc[q]? = some (.inl (t, xs)) ∧ xs.length = n ∧ i < n ∧ (∀ i f z, x_g d i = some f → xs[i]? = some z → x_s1 f.2 z.toInt) ∧ x_g d i = some f ∧ y_le e f.2 = true ∧ y_cov md q i := by
  have base : ∀ {q : Nat} {p : Nat × List (List yF)}, y_ac g t q = some p → (Nat.ble (a + k + 1) p.1 && (y_wr e p.2 a k && y_md q a (a + k) md)) = true → ∀ i, a ≤ i → i ≤ a + k → ∃ (n : Nat) (d : List (List yF)) (xs : List Int32) (f : yF), x_g g q = some (0, t, n, d) ∧ hc[q]? = some (.inl (t, xs)) ∧ xs.length = n ∧ i < n ∧ (∀ i f z, x_g d i = some f → xs[i]? = some z → x_s1 f.2 z.toInt) ∧ x_g d i = some f ∧ y_le e f.2 = true ∧ y_cov md q i := by
    intro q p h1 h2 i i1 i2
    obtain ⟨n, d⟩ := p
    obtain ⟨⟨c, c1, c2⟩, xs, g1, g2, g3⟩ := y_ac_ok h1 hi
    subst c2
    simp only [Bool.and_eq_true] at h2
    have b1 : a + k + 1 ≤ n := Nat.le_of_ble_eq_true h2.1
    obtain ⟨f, f1, f2⟩ := y_wr_ok h2.2.1 i i1 i2
    exact ⟨n, d, xs, f, c1, g1, g2, by omega, g3, f1, f2, y_md_ok h2.2.2 i i1 i2⟩
  intro m
  induction m with
  | zero =>
    intro h q i q1 q2 i1 i2
    have hq : q = lo := by omega
    subst hq
    have h : (match y_ac g t q with
      | some p => Nat.ble (a + k + 1) p.1 && (y_wr e p.2 a k && y_md q a (a + k) md)
      | none => false) = true := h
    cases hp : y_ac g t q with
    | none => rw [hp] at h; cases h
    | some p => rw [hp] at h; exact base hp h i i1 i2
  | succ j ih =>
    intro h q i q1 q2 i1 i2
    have h : (match y_wq g md t e lo a k j with
      | false => false
      | true => match y_ac g t (lo + (j + 1)) with
        | some p => Nat.ble (a + k + 1) p.1 && (y_wr e p.2 a k && y_md (lo + (j + 1)) a (a + k) md)
        | none => false) = true := h
    cases he : y_wq g md t e lo a k j with
    | false => rw [he] at h; cases h
    | true =>
      rw [he] at h
      by_cases hq : q = lo + (j + 1)
      · subst hq
        dsimp only at h
        cases hp : y_ac g t (lo + (j + 1)) with
        | none => rw [hp] at h; cases h
        | some p => rw [hp] at h; exact base hp h i i1 i2
      · exact ih he q i q1 (by omega) i1 i2
noncomputable def yo_as (g : yQ) (t : Nat) (next : yK) : yK := fun L st h env kc ks => match st with
  | w :: st1 => match st1 with
    | i :: st2 => match st2 with
      | v :: r => match Nat.beq v.1 2 && (Nat.beq i.1 0 && (x_ak t env w && y_rg env w)) with
        | true => match y_bn env v with
          | some q => match y_bn env i with
            | some k => match y_ent env w with
              | some e => match y_wq g h.1 t e q.1 k.1 (k.2 - k.1) (q.2 - q.1) with
                | true => match Nat.beq q.1 q.2 && Nat.beq k.1 k.2 with
                  | true => next L r (h.1, (q.1, k.1, w) :: y_dr q.1 q.2 k.1 k.2 h.2.1, h.2.2) env kc ks
                  | false => next L r (h.1, y_dr q.1 q.2 k.1 k.2 h.2.1, h.2.2) env kc ks
                | false => none
              | none => none
            | none => none
          | none => none
        | false => none
      | [] => none
    | [] => none
  | [] => none
theorem ys_as {t0 : Nat} (hf : ev_f t pc = some (pp0, i, a, b, pp, v)) (ht : x_asti t0 = some i) (hlen : ev_len i = 1) (hn : y_S h0 scx (rt, ini, mx, na, rc, fr, lo, mc, ms, t) (pc + 1) next) : y_S h0 scx (rt, ini, mx, na, rc, fr, lo, mc, ms, t) pc (yo_as h0.1 t0 next) :=
  y_S_h hf (by rw [hlen]; exact hn) fun L st h env kc ks outs hk ρ sc stc hc hX hsat hst hh => by
    unfold yo_as at hk
    split at hk
    · rename_i w st1
      split at hk
      · rename_i ix st2
        split at hk
        · rename_i x r
          have hr : ∀ z ∈ r, x_ok env.length z := fun z hz => hst.2 z (by simp [hz])
          split at hk
          · rename_i hb
            simp only [Bool.and_eq_true] at hb
            obtain ⟨b1, b2, b3, b4⟩ := hb
            have b1 := Nat.eq_of_beq_eq_true b1
            have b2 := Nat.eq_of_beq_eq_true b2
            split at hk
            · rename_i q hq
              split at hk
              · rename_i k hkk
                split at hk
                · rename_i e he
                  split at hk
                  · rename_i hwq
                    obtain ⟨ql, qu⟩ := q
                    obtain ⟨kl, ku⟩ := k
                    obtain ⟨q0, q1, q2, q3, q4⟩ := y_bn_ok hq hsat
                    obtain ⟨k0, k1, k2, k3, k4⟩ := y_bn_ok hkk hsat
                    obtain ⟨hin, hun, hca, hvn⟩ := hh
                    obtain ⟨j2, j3⟩ := y_ixn (k := k0) (by omega)
                    obtain ⟨n, d, xs, f, g1, g2, g3, g4, g5, g6, g7, g8⟩ := y_wq_ok hin hwq q0 k0 q2 (by dsimp only; omega) k2 (by dsimp only; omega)
                    have hl : k0 < xs.length := by omega
                    have hql := (List.getElem?_eq_some_iff.mp g2).1
                    obtain ⟨w0, hstep⟩ := x_ast_c (sc := sc) (ini := ini) (a := a) (b := b) (r := r.map (x_in ρ)) ht hsat b3 j2 j3 g2 hl
                    have hz : (Int32.ofInt (x_vl ρ w)).toInt = x_vl ρ w := by
                      unfold y_rg at b4
                      rw [w0] at b4
                      obtain ⟨w1, w2⟩ := x_wi_ok hsat b4
                      exact x_i32 w1 w2
                    have hg := y_get_setA (z := Int32.ofInt (x_vl ρ w)) g2 hl
                    have hin' : y_in h0.1 (hc.set q0 (.inl (t0, xs.set k0 (Int32.ofInt (x_vl ρ w))))) := y_in_set hin (fun c hc' => by
                      rw [g1] at hc'
                      cases hc'
                      refine ⟨_, rfl, by rw [List.length_set]; exact g3, fun m f' z' hm hz' => ?_⟩
                      rw [List.getElem?_set] at hz'
                      by_cases hmk : k0 = m
                      · subst hmk
                        rw [if_pos rfl, if_pos hl] at hz'
                        cases hz'
                        have hm : x_g d k0 = some f' := hm
                        rw [g6] at hm
                        cases hm
                        rw [hz]
                        exact y_le_ok g7 (y_ent_ok hsat he)
                      · rw [if_neg hmk] at hz'
                        exact g5 m f' z' hm hz') hql
                    have hun' : y_un h.1 h0.2 (hc.set q0 (.inl (t0, xs.set k0 (Int32.ofInt (x_vl ρ w))))) := fun q' i' hnc => by
                      rw [hg, if_neg]
                      · exact hun q' i' hnc
                      · rintro ⟨rfl, rfl⟩
                        exact hnc g8
                    have hca' : y_ca env.length ρ (y_dr ql qu kl ku h.2.1) (hc.set q0 (.inl (t0, xs.set k0 (Int32.ofInt (x_vl ρ w))))) := fun e' he' => by
                      obtain ⟨m1, m2⟩ := y_dr_ok he'
                      obtain ⟨n1, n2, n3⟩ := hca e' m1
                      refine ⟨n1, n2, ?_⟩
                      rw [hg, if_neg]
                      · exact n3
                      · rintro ⟨z1, z2⟩
                        exact m2 (by rw [z1, z2]; exact ⟨q2, q3, k2, k3⟩)
                    have hev : ev_h sc i ini a b stc hc = some (r.map (x_in ρ), hc.set q0 (.inl (t0, xs.set k0 (Int32.ofInt (x_vl ρ w))))) := by
                      rw [hst.1, List.map_cons, List.map_cons, List.map_cons, x_in0 b2, x_in2 b1, q1, k1, Int.toNat_natCast]
                      exact hstep
                    split at hk
                    · rename_i hs
                      rw [Bool.and_eq_true] at hs
                      have s1 : ql = qu := Nat.eq_of_beq_eq_true hs.1
                      have s2 : kl = ku := Nat.eq_of_beq_eq_true hs.2
                      refine ⟨ρ, r, (h.1, (ql, kl, w) :: y_dr ql qu kl ku h.2.1, h.2.2), env, r.map (x_in ρ), hc.set q0 (.inl (t0, xs.set k0 (Int32.ofInt (x_vl ρ w)))), outs, x_ext.rf, Nat.le_refl _, hsat, ⟨rfl, hr⟩, ⟨hin', hun', fun e' he' => ?_, hvn⟩, hev, hk, fun _ z => z⟩
                      rcases List.mem_cons.mp he' with rfl | he'
                      · have eq0 : ql = q0 := by omega
                        have ek0 : kl = k0 := by omega
                        exact ⟨by show w.1 < 2; rw [w0]; decide, hst.2 w (by simp), by rw [hg, if_pos ⟨eq0, ek0⟩, x_in0 w0]⟩
                      · exact hca' e' he'
                    · exact ⟨ρ, r, (h.1, y_dr ql qu kl ku h.2.1, h.2.2), env, r.map (x_in ρ), hc.set q0 (.inl (t0, xs.set k0 (Int32.ofInt (x_vl ρ w)))), outs, x_ext.rf, Nat.le_refl _, hsat, ⟨rfl, hr⟩, ⟨hin', hun', hca', hvn⟩, hev, hk, fun _ z => z⟩
                  · cases hk
                · cases hk
              · cases hk
            · cases hk
          · cases hk
        · cases hk
      · cases hk
    · cases hk
/-! rows, lengths -/
noncomputable def yo_aa (g : yQ) (next : yK) : yK := fun L st h env kc ks => match st with
  | i :: st' => match st' with
    | v :: r => match Nat.beq v.1 2 && (Nat.beq v.2.1 0 && Nat.beq i.1 0) with
      | true => match x_g g v.2.2.toNat with
        | some c => match Nat.beq c.1 1 && (Nat.ble c.2.2.1 100000 && x_wi 0 (Int.ofNat c.2.2.1 - 1) env i) with
          | true => next L ((2, i.2.1, i.2.2 + Int.ofNat c.2.1) :: r) h env kc ks
          | false => none
        | none => none
      | false => none
    | [] => none
  | [] => none
theorem ys_aa (hf : ev_f t pc = some (pp0, .aaload, a, b, pp, v)) (hn : y_S h0 scx (rt, ini, mx, na, rc, fr, lo, mc, ms, t) (pc + 1) next) : y_S h0 scx (rt, ini, mx, na, rc, fr, lo, mc, ms, t) pc (yo_aa h0.1 next) :=
  y_S_h hf hn fun L st h env kc ks outs hk ρ sc stc hc hX hsat hst hh => by
    unfold yo_aa at hk
    split at hk
    · rename_i ix st'
      split at hk
      · rename_i x r
        split at hk
        · rename_i hb
          simp only [Bool.and_eq_true] at hb
          obtain ⟨b1, b2, b3⟩ := hb
          have b1 := Nat.eq_of_beq_eq_true b1
          have b2 := Nat.eq_of_beq_eq_true b2
          have q3 := Nat.eq_of_beq_eq_true b3
          split at hk
          · rename_i c hcg
            split at hk
            · rename_i hq
              simp only [Bool.and_eq_true] at hq
              obtain ⟨q1, q2, q4⟩ := hq
              obtain ⟨cc, g3, g4⟩ := hh.1 _ c hcg
              obtain ⟨c1, c2, c3, c4⟩ := c
              have q1 : c1 = 1 := Nat.eq_of_beq_eq_true q1
              subst q1
              have g4 : cc = .inr (.inl ((List.range c3).map (fun i => c2 + i))) := g4
              subst g4
              have q2 : c3 ≤ 100000 := Nat.le_of_ble_eq_true q2
              obtain ⟨w1, w2⟩ := x_wi_ok hsat q4
              have w2 : x_vl ρ ix ≤ (c3 : Int) - 1 := w2
              obtain ⟨k1, k2⟩ := x_ixn (k := x_vl ρ ix) w1 (by omega)
              have oi : x_ok env.length ix := hst.2 ix (by simp)
              have hlt : (x_vl ρ ix).toNat < c3 := by omega
              refine ⟨ρ, (2, ix.2.1, ix.2.2 + Int.ofNat c2) :: r, h, env, .ref (c2 + (x_vl ρ ix).toNat) :: r.map (x_in ρ), hc, outs, x_ext.rf, Nat.le_refl _, hsat, ⟨?_, List.forall_mem_cons.mpr ⟨oi, fun z hz => hst.2 z (by simp [hz])⟩⟩, hh, ?_, hk, fun _ z => z⟩
              · rw [List.map_cons, x_in2 rfl]
                have : x_vl ρ ((2, ix.2.1, ix.2.2 + Int.ofNat c2) : xv) = x_vl ρ ix + (c2 : Int) := by
                  obtain ⟨ka, sa, oa⟩ := ix
                  cases sa with
                  | zero => rfl
                  | succ sa => show ρ sa + (oa + (c2 : Int)) = ρ sa + oa + (c2 : Int); omega
                have e9 : (x_vl ρ ((2, ix.2.1, ix.2.2 + Int.ofNat c2) : xv)).toNat = c2 + (x_vl ρ ix).toNat := by
                  rw [this]
                  omega
                rw [e9]
              · rw [hst.1, List.map_cons, List.map_cons, x_in2 b1, x_vl0 b2, x_in0 q3]
                show (match hc[x.2.2.toNat]? with
                  | some (.inr (.inl rs)) => match ev_inn (Int32.ofInt (x_vl ρ ix)) rs.length with
                    | true => some (Value.ref (rs.getD (Int32.ofInt (x_vl ρ ix)).toNatClampNeg 0) :: r.map (x_in ρ), hc)
                    | false => none
                  | _ => none) = _
                rw [g3]
                dsimp only
                rw [x_inn k1 k2 (by rw [List.length_map, List.length_range]; exact hlt), k1]
                dsimp only
                rw [List.getD_eq_getElem?_getD, List.getElem?_map, List.getElem?_range hlt]
                rfl
            · cases hk
          · cases hk
        · cases hk
      · cases hk
    · cases hk
/-- all arrays of cells lo to lo + m have this length -/
noncomputable def y_ln (g : yQ) (n lo : Nat) (m : Nat) : Bool := Nat.rec (motive := fun _ => Bool) (match x_g g lo with
  | some c => Nat.beq c.1 0 && (Nat.ble (c.2.1 + 1) 3 && Nat.beq c.2.2.1 n)
  | none => false) (fun j ih => match ih with
  | false => false
  | true => match x_g g (lo + (j + 1)) with
    | some c => Nat.beq c.1 0 && (Nat.ble (c.2.1 + 1) 3 && Nat.beq c.2.2.1 n)
    | none => false) m
theorem y_ln_ok {g : yQ} {n lo : Nat} {hc : ev_H} (hi : y_in g hc) : ∀ {m : Nat}, y_ln g n lo m = true → ∀ q, lo ≤ q → q ≤ lo + m → ∃ (t : Nat) (xs : List Int32), hc[q]? = some (.inl (t, xs)) ∧ t < 3 ∧ xs.length = n := by
  have base : ∀ {q : Nat} {c : yC}, x_g g q = some c → (Nat.beq c.1 0 && (Nat.ble (c.2.1 + 1) 3 && Nat.beq c.2.2.1 n)) = true → ∃ (t : Nat) (xs : List Int32), hc[q]? = some (.inl (t, xs)) ∧ t < 3 ∧ xs.length = n := by
    intro q c h1 h2
    simp only [Bool.and_eq_true] at h2
    obtain ⟨cc, g1, g2⟩ := hi q c h1
    obtain ⟨c1, c2, c3, c4⟩ := c
    have b1 : c1 = 0 := Nat.eq_of_beq_eq_true h2.1
    subst b1
    obtain ⟨xs, e1, e2, -⟩ := g2
    subst e1
    exact ⟨c2, xs, g1, Nat.le_of_ble_eq_true h2.2.1, e2.trans (Nat.eq_of_beq_eq_true h2.2.2)⟩
  intro m
  induction m with
  | zero =>
    intro h q q1 q2
    have hq : q = lo := by omega
    subst hq
    have h : (match x_g g q with
      | some c => Nat.beq c.1 0 && (Nat.ble (c.2.1 + 1) 3 && Nat.beq c.2.2.1 n)
      | none => false) = true := h
    cases hp : x_g g q with
    | none => rw [hp] at h; cases h
    | some c => rw [hp] at h; exact base hp h
  | succ j ih =>
    intro h q q1 q2
    have h : (match y_ln g n lo j with
      | false => false
      | true => match x_g g (lo + (j + 1)) with
        | some c => Nat.beq c.1 0 && (Nat.ble (c.2.1 + 1) 3 && Nat.beq c.2.2.1 n)
        | none => false) = true := h
    cases he : y_ln g n lo j with
    | false => rw [he] at h; cases h
    | true =>
      rw [he] at h
      by_cases hq : q = lo + (j + 1)
      · subst hq
        dsimp only at h
        cases hp : x_g g (lo + (j + 1)) with
        | none => rw [hp] at h; cases h
        | some c => rw [hp] at h; exact base hp h
      · exact ih he q q1 (by omega)
noncomputable def yo_len (g : yQ) (next : yK) : yK := fun L st h env kc ks => match st with
  | v :: r => match Nat.beq v.1 2 with
    | true => match y_bn env v with
      | some q => match x_g g q.1 with
        | some c => match y_ln g c.2.2.1 q.1 (q.2 - q.1) with
          | true => next L ((0, 0, Int.ofNat c.2.2.1) :: r) h env kc ks
          | false => none
        | none => none
      | none => none
    | false => none
  | [] => none
theorem ys_len (hf : ev_f t pc = some (pp0, .arraylength, a, b, pp, v)) (hn : y_S h0 scx (rt, ini, mx, na, rc, fr, lo, mc, ms, t) (pc + 1) next) : y_S h0 scx (rt, ini, mx, na, rc, fr, lo, mc, ms, t) pc (yo_len h0.1 next) :=
  y_S_h hf hn fun L st h env kc ks outs hk ρ sc stc hc hX hsat hst hh => by
    unfold yo_len at hk
    split at hk
    · rename_i x r
      have hr : ∀ z ∈ r, x_ok env.length z := fun z hz => hst.2 z (by simp [hz])
      split at hk
      · rename_i h2
        split at hk
        · rename_i q hq
          split at hk
          · rename_i c hcg
            split at hk
            · rename_i hl
              obtain ⟨ql, qu⟩ := q
              obtain ⟨q0, q1, q2, q3, q4⟩ := y_bn_ok hq hsat
              obtain ⟨t9, xs, g1, g2, g3⟩ := y_ln_ok hh.1 hl q0 q2 (by dsimp only; omega)
              refine ⟨ρ, (0, 0, Int.ofNat c.2.2.1) :: r, h, env, .int (Int32.ofNat c.2.2.1) :: r.map (x_in ρ), hc, outs, x_ext.rf, Nat.le_refl _, hsat, ⟨?_, List.forall_mem_cons.mpr ⟨Nat.zero_le _, hr⟩⟩, hh, ?_, hk, fun _ z => z⟩
              · rw [List.map_cons, x_in0 rfl, ← Int32.ofInt_eq_ofNat]
                rfl
              · rw [hst.1, List.map_cons, x_in2 (Nat.eq_of_beq_eq_true h2), q1, Int.toNat_natCast]
                show (match hc[q0]? with
                  | some (.inl (t, xs)) => if t < 3 then some (Value.int (Int32.ofNat xs.length) :: r.map (x_in ρ), hc) else none
                  | _ => none) = _
                rw [g1]
                dsimp only
                rw [if_pos g2, g3]
            · cases hk
          · cases hk
        · cases hk
      · cases hk
    · cases hk
end YAR
/-! numbers, with more of their ranges -/
noncomputable def y_nrm (env : xE) (w : xv) : Option (xv × xE) := match x_wi (-2147483648) 2147483647 env w with
  | true => some (w, env)
  | false => some (x_nw 0 x_fi env)
/-- a range, if it lies within the ints -/
def y_fit (l u : Int) : Int × Int × Bool := match x_le (-2147483648) l && x_le u 2147483647 with
  | true => (l, u, false)
  | false => x_fi
theorem y_fit_ok {l u z : Int} (h1 : l ≤ z) (h2 : z ≤ u) : x_s1 (y_fit l u) (Int32.ofInt z).toInt := by
  unfold y_fit
  cases hb : (x_le (-2147483648) l && x_le u 2147483647) with
  | false => exact x_fi_ok _
  | true =>
    rw [Bool.and_eq_true] at hb
    have a1 := x_le_iff.mp hb.1
    have a2 := x_le_iff.mp hb.2
    rw [x_i32 (by omega) (by omega)]
    exact Or.inl ⟨h1, h2⟩
/-- what a number is by: a value that is op's, a value of the symbols' -/
theorem y_g2_of {E : List Value → Option (List Value)} {op : Int32 → Int32 → Int32} (hE : ∀ x y r, E (.int y :: .int x :: r) = some (.int (op x y) :: r)) {g : xE → xv → xv → Option (xv × xE)}
    (hg : ∀ env a b p ρ, g env a b = some p → x_sat ρ env → x_ok env.length a → x_ok env.length b → (p.2 = env ∧ p.1.1 = 0 ∧ x_ok env.length p.1 ∧ Int32.ofInt (x_vl ρ p.1) = op (Int32.ofInt (x_vl ρ a)) (Int32.ofInt (x_vl ρ b))) ∨ ∃ e, p = x_nw 0 e env ∧ x_s1 e (op (Int32.ofInt (x_vl ρ a)) (Int32.ofInt (x_vl ρ b))).toInt) : x_g2 0 0 E g := by
  intro env a b p ρ hp ha hb hsat oa ob
  rcases hg env a b p ρ hp hsat oa ob with ⟨h1, h2, h3, h4⟩ | ⟨e, h1, h2⟩
  · refine ⟨ρ, x_ext.rf, by rw [h1]; exact Nat.le_refl _, by rw [h1]; exact hsat, by rw [h1]; exact h3, fun r => ?_⟩
    rw [x_in0 ha, x_in0 hb, hE, x_in0 h2, h4]
  · subst h1
    obtain ⟨ρ', g1, g2, g3, g4, g5⟩ := x_nwi hsat h2
    exact ⟨ρ', g1, g2, g3, g4, fun r => by rw [x_in0 ha, x_in0 hb, hE, g5]⟩
theorem y_nrm_ok {env : xE} {w : xv} {p : xv × xE} (h : y_nrm env w = some p) (h0 : w.1 = 0) (ho : x_ok env.length w) (ρ : Nat → Int) {z : Int32} (hz : Int32.ofInt (x_vl ρ w) = z) : (p.2 = env ∧ p.1.1 = 0 ∧ x_ok env.length p.1 ∧ Int32.ofInt (x_vl ρ p.1) = z) ∨ ∃ e, p = x_nw 0 e env ∧ x_s1 e z.toInt := by
  unfold y_nrm at h
  split at h
  · cases h; exact Or.inl ⟨rfl, h0, ho, hz⟩
  · cases h; exact Or.inr ⟨x_fi, rfl, x_fi_ok z⟩
noncomputable def yg_add (env : xE) (a b : xv) : Option (xv × xE) := match b.2.1 with
  | 0 => y_nrm env (0, a.2.1, a.2.2 + b.2.2)
  | _ + 1 => match a.2.1 with
    | 0 => y_nrm env (0, b.2.1, a.2.2 + b.2.2)
    | _ + 1 => match x_bd env a with
      | none => none
      | some p => match x_bd env b with
        | none => none
        | some q => some (x_nw 0 (y_fit (p.1 + q.1) (p.2 + q.2)) env)
theorem yg_add_ok : x_g2 0 0 (ev_s .iadd .null) yg_add := y_g2_of (op := (· + ·)) (fun _ _ _ => rfl) (by
  intro env a b p ρ hp hsat oa ob
  obtain ⟨ka, sa, na⟩ := a
  obtain ⟨kb, sb, nb⟩ := b
  unfold yg_add at hp
  cases sb with
  | zero =>
    refine y_nrm_ok hp rfl oa ρ ?_
    show _ = Int32.ofInt _ + Int32.ofInt _
    rw [← Int32.ofInt_add]
    congr 1
    cases sa with
    | zero => rfl
    | succ sa => show ρ sa + (na + nb) = ρ sa + na + nb; omega
  | succ sb => cases sa with
    | zero =>
      refine y_nrm_ok hp rfl ob ρ ?_
      show _ = Int32.ofInt _ + Int32.ofInt _
      rw [← Int32.ofInt_add]
      congr 1
      show ρ sb + (na + nb) = na + (ρ sb + nb)
      omega
    | succ sa =>
      dsimp only at hp
      split at hp
      · cases hp
      · rename_i pa hpa
        split at hp
        · cases hp
        · rename_i qb hqb
          cases hp
          obtain ⟨la, ua⟩ := pa
          obtain ⟨lb, ub⟩ := qb
          have b1 := x_bd_ok hsat hpa
          have b2 := x_bd_ok hsat hqb
          refine Or.inr ⟨_, rfl, ?_⟩
          show x_s1 _ (Int32.ofInt _ + Int32.ofInt _).toInt
          rw [← Int32.ofInt_add]
          exact y_fit_ok (by dsimp only; omega) (by dsimp only; omega))
noncomputable def yg_sub (env : xE) (a b : xv) : Option (xv × xE) := match b.2.1 with
  | 0 => y_nrm env (0, a.2.1, a.2.2 - b.2.2)
  | sb + 1 => match Nat.beq a.2.1 (sb + 1) with
    | true => y_nrm env (0, 0, a.2.2 - b.2.2)
    | false => match x_bd env a with
      | none => none
      | some p => match x_bd env b with
        | none => none
        | some q => some (x_nw 0 (y_fit (p.1 - q.2) (p.2 - q.1)) env)
theorem yg_sub_ok : x_g2 0 0 (ev_s .isub .null) yg_sub := y_g2_of (op := (· - ·)) (fun _ _ _ => rfl) (by
  intro env a b p ρ hp hsat oa ob
  obtain ⟨ka, sa, na⟩ := a
  obtain ⟨kb, sb, nb⟩ := b
  unfold yg_sub at hp
  cases sb with
  | zero =>
    refine y_nrm_ok hp rfl oa ρ ?_
    show _ = Int32.ofInt _ - Int32.ofInt _
    rw [← Int32.ofInt_sub]
    congr 1
    cases sa with
    | zero => rfl
    | succ sa => show ρ sa + (na - nb) = ρ sa + na - nb; omega
  | succ sb =>
    dsimp only at hp
    cases hq : Nat.beq sa (sb + 1) with
    | true =>
      rw [hq] at hp
      have := Nat.eq_of_beq_eq_true hq
      subst this
      refine y_nrm_ok hp rfl (Nat.zero_le _) ρ ?_
      show _ = Int32.ofInt _ - Int32.ofInt _
      rw [← Int32.ofInt_sub]
      congr 1
      show na - nb = ρ sb + na - (ρ sb + nb)
      omega
    | false =>
      rw [hq] at hp
      dsimp only at hp
      split at hp
      · cases hp
      · rename_i pa hpa
        split at hp
        · cases hp
        · rename_i qb hqb
          cases hp
          obtain ⟨la, ua⟩ := pa
          obtain ⟨lb, ub⟩ := qb
          have b1 := x_bd_ok hsat hpa
          have b2 := x_bd_ok hsat hqb
          refine Or.inr ⟨_, rfl, ?_⟩
          show x_s1 _ (Int32.ofInt _ - Int32.ofInt _).toInt
          rw [← Int32.ofInt_sub]
          exact y_fit_ok (by dsimp only; omega) (by dsimp only; omega))
/-- the first not below 0, the second any -/
noncomputable def yg_mul (env : xE) (a b : xv) : Option (xv × xE) := match x_bd env a with
  | none => none
  | some p => match x_bd env b with
    | none => none
    | some q => match x_le 0 p.1 with
      | true => some (x_nw 0 (y_fit (x_mn (p.1 * q.1) (p.2 * q.1)) (x_mx (p.1 * q.2) (p.2 * q.2))) env)
      | false => some (x_nw 0 x_fi env)
theorem yg_mul_ok : x_g2 0 0 (ev_s .imul .null) yg_mul := y_g2_of (op := (· * ·)) (fun _ _ _ => rfl) (by
  intro env a b p ρ hp hsat oa ob
  unfold yg_mul at hp
  split at hp
  · cases hp
  · rename_i pa hpa
    split at hp
    · cases hp
    · rename_i qb hqb
      split at hp
      · rename_i h0
        cases hp
        obtain ⟨la, ua⟩ := pa
        obtain ⟨lb, ub⟩ := qb
        have h0 : 0 ≤ la := x_le_iff.mp h0
        have b1 := x_bd_ok hsat hpa
        have b2 := x_bd_ok hsat hqb
        refine Or.inr ⟨_, rfl, ?_⟩
        show x_s1 _ (Int32.ofInt _ * Int32.ofInt _).toInt
        rw [← Int32.ofInt_mul]
        have ha : 0 ≤ x_vl ρ a := by omega
        have m1 : x_vl ρ a * lb ≤ x_vl ρ a * x_vl ρ b := Int.mul_le_mul_of_nonneg_left b2.1 ha
        have m2 : x_vl ρ a * x_vl ρ b ≤ x_vl ρ a * ub := Int.mul_le_mul_of_nonneg_left b2.2 ha
        refine y_fit_ok ?_ ?_
        · refine Int.le_trans ?_ m1
          dsimp only
          by_cases hb : 0 ≤ lb
          · exact Int.le_trans (x_mn_l _ _) (Int.mul_le_mul_of_nonneg_right b1.1 hb)
          · exact Int.le_trans (x_mn_r _ _) (Int.mul_le_mul_of_nonpos_right b1.2 (by omega))
        · refine Int.le_trans m2 ?_
          dsimp only
          by_cases hb : 0 ≤ ub
          · exact Int.le_trans (Int.mul_le_mul_of_nonneg_right b1.2 hb) (x_mx_r _ _)
          · exact Int.le_trans (Int.mul_le_mul_of_nonpos_right b1.1 (by omega)) (x_mx_l _ _)
      · cases hp
        exact Or.inr ⟨_, rfl, x_fi_ok _⟩)
/-! bits of numbers not below 0 -/
theorem y_nn {x : Int32} (h : 0 ≤ x.toInt) : x.toInt = (x.toBitVec.toNat : Int) ∧ 2 * x.toBitVec.toNat < 2 ^ 32 := by
  have hx : x.toInt = x.toBitVec.toInt := rfl
  have h1 := BitVec.toInt_eq_toNat_cond x.toBitVec
  have h4 := x.toBitVec.isLt
  by_cases hc : 2 * x.toBitVec.toNat < 2 ^ 32
  · rw [if_pos hc] at h1
    exact ⟨hx.trans h1, hc⟩
  · rw [if_neg hc] at h1
    omega
theorem y_bv {u : BitVec 32} (h : 2 * u.toNat < 2 ^ 32) : u.toInt = (u.toNat : Int) := by
  have := BitVec.toInt_eq_toNat_cond u
  rw [if_pos h] at this
  exact this
theorem y_or_le {x y : Int32} {k : Nat} (hk : k ≤ 31) (hx : 0 ≤ x.toInt) (hy : 0 ≤ y.toInt) (hx2 : x.toInt < 2 ^ k) (hy2 : y.toInt < 2 ^ k) : 0 ≤ (x ||| y).toInt ∧ (x ||| y).toInt < 2 ^ k := by
  obtain ⟨a1, a2⟩ := y_nn hx
  obtain ⟨b1, b2⟩ := y_nn hy
  have hp : (2 : Int) ^ k = ((2 ^ k : Nat) : Int) := by push_cast; rfl
  rw [hp] at hx2 hy2 ⊢
  have h : (x.toBitVec ||| y.toBitVec).toNat < 2 ^ k := by
    rw [BitVec.toNat_or]
    exact Nat.or_lt_two_pow (by omega) (by omega)
  have h31 : 2 ^ k ≤ 2 ^ 31 := Nat.pow_le_pow_right (by decide) hk
  have e : (x ||| y).toInt = (x.toBitVec ||| y.toBitVec).toInt := rfl
  rw [e, y_bv (by omega)]
  omega
theorem y_xor_le {x y : Int32} {k : Nat} (hk : k ≤ 31) (hx : 0 ≤ x.toInt) (hy : 0 ≤ y.toInt) (hx2 : x.toInt < 2 ^ k) (hy2 : y.toInt < 2 ^ k) : 0 ≤ (x ^^^ y).toInt ∧ (x ^^^ y).toInt < 2 ^ k := by
  obtain ⟨a1, a2⟩ := y_nn hx
  obtain ⟨b1, b2⟩ := y_nn hy
  have hp : (2 : Int) ^ k = ((2 ^ k : Nat) : Int) := by push_cast; rfl
  rw [hp] at hx2 hy2 ⊢
  have h : (x.toBitVec ^^^ y.toBitVec).toNat < 2 ^ k := by
    rw [BitVec.toNat_xor]
    exact Nat.xor_lt_two_pow (by omega) (by omega)
  have h31 : 2 ^ k ≤ 2 ^ 31 := Nat.pow_le_pow_right (by decide) hk
  have e : (x ^^^ y).toInt = (x.toBitVec ^^^ y.toBitVec).toInt := rfl
  rw [e, y_bv (by omega)]
  omega
/-- how many bits hold both -/
def y_pw (u w : Int) : Option Nat := match x_le 0 u && (x_le 0 w && (x_le u 2147483647 && x_le w 2147483647)) with
  | true => some (Nat.log2 (Nat.max u.toNat w.toNat) + 1)
  | false => none
noncomputable def yg_bit (env : xE) (a b : xv) : Option (xv × xE) := match x_bd env a with
  | none => none
  | some p => match x_bd env b with
    | none => none
    | some q => match x_le 0 p.1 && x_le 0 q.1 with
      | true => match y_pw p.2 q.2 with
        | some k => match Nat.ble k 31 with
          | true => some (x_nw 0 (0, Int.ofNat (2 ^ k - 1), false) env)
          | false => some (x_nw 0 x_fi env)
        | none => some (x_nw 0 x_fi env)
      | false => some (x_nw 0 x_fi env)
theorem y_pw_ok {u w : Int} {k : Nat} (h : y_pw u w = some k) : 0 ≤ u ∧ 0 ≤ w ∧ u ≤ 2147483647 ∧ w ≤ 2147483647 ∧ u < ((2 ^ k : Nat) : Int) ∧ w < ((2 ^ k : Nat) : Int) := by
  unfold y_pw at h
  split at h
  · rename_i hb
    cases h
    simp only [Bool.and_eq_true] at hb
    have h1 := x_le_iff.mp hb.1
    have h2 := x_le_iff.mp hb.2.1
    have h3 := x_le_iff.mp hb.2.2.1
    have h4 := x_le_iff.mp hb.2.2.2
    have hl : Nat.max u.toNat w.toNat < 2 ^ (Nat.log2 (Nat.max u.toNat w.toNat) + 1) := Nat.lt_log2_self
    have l1 : u.toNat ≤ Nat.max u.toNat w.toNat := Nat.le_max_left _ _
    have l2 : w.toNat ≤ Nat.max u.toNat w.toNat := Nat.le_max_right _ _
    generalize 2 ^ (Nat.log2 (Nat.max u.toNat w.toNat) + 1) = z at hl ⊢
    exact ⟨h1, h2, h3, h4, by omega, by omega⟩
  · cases h
theorem yg_bit_ok {E : List Value → Option (List Value)} {op : Int32 → Int32 → Int32} (hE : ∀ x y r, E (.int y :: .int x :: r) = some (.int (op x y) :: r)) (hop : ∀ (x y : Int32) (k : Nat), k ≤ 31 → 0 ≤ x.toInt → 0 ≤ y.toInt → x.toInt < 2 ^ k → y.toInt < 2 ^ k → 0 ≤ (op x y).toInt ∧ (op x y).toInt < 2 ^ k) : x_g2 0 0 E yg_bit := y_g2_of hE (by
  intro env a b p ρ hp hsat oa ob
  unfold yg_bit at hp
  split at hp
  · cases hp
  · rename_i pa hpa
    split at hp
    · cases hp
    · rename_i qb hqb
      split at hp
      · rename_i h0
        split at hp
        · rename_i k hk
          split at hp
          · rename_i h31
            cases hp
            obtain ⟨la, ua⟩ := pa
            obtain ⟨lb, ub⟩ := qb
            rw [Bool.and_eq_true] at h0
            have c1 : 0 ≤ la := x_le_iff.mp h0.1
            have c2 : 0 ≤ lb := x_le_iff.mp h0.2
            have b1 := x_bd_ok hsat hpa
            have b2 := x_bd_ok hsat hqb
            obtain ⟨-, -, u1, u2, u3, u4⟩ := y_pw_ok hk
            have u1 : ua ≤ 2147483647 := u1
            have u2 : ub ≤ 2147483647 := u2
            have u3 : ua < ((2 ^ k : Nat) : Int) := u3
            have u4 : ub < ((2 ^ k : Nat) : Int) := u4
            have hp2 : (2 : Int) ^ k = ((2 ^ k : Nat) : Int) := by push_cast; rfl
            have ea := x_i32 (a := x_vl ρ a) (by omega) (by omega)
            have eb := x_i32 (a := x_vl ρ b) (by omega) (by omega)
            have := hop (Int32.ofInt (x_vl ρ a)) (Int32.ofInt (x_vl ρ b)) k (Nat.le_of_ble_eq_true h31) (by omega) (by omega) (by rw [hp2]; omega) (by rw [hp2]; omega)
            rw [hp2] at this
            refine Or.inr ⟨_, rfl, Or.inl ⟨this.1, ?_⟩⟩
            show _ ≤ ((2 ^ k - 1 : Nat) : Int)
            omega
          · cases hp
            exact Or.inr ⟨_, rfl, x_fi_ok _⟩
        · cases hp
          exact Or.inr ⟨_, rfl, x_fi_ok _⟩
      · cases hp
        exact Or.inr ⟨_, rfl, x_fi_ok _⟩)
/-! calls over the other heap: in line, or by contract -/
/-- what a contract takes, what it answers, what it may write -/
abbrev yCt : Type := List yF × Option yF × yMd
def y_rA (f : yF) (v : Value) : Prop := match f.1 with
  | 2 => ∃ k : Nat, v = .ref k ∧ f.2.1 ≤ (k : Int) ∧ (k : Int) ≤ f.2.2.1
  | _ => y_rF f v
def y_args (fs : List yF) (as : List Value) : Prop := fs.length = as.length ∧ ∀ (k : Nat) (f : yF) (v : Value), fs[k]? = some f → as[k]? = some v → y_rA f v
def y_ret (f : Option yF) (r : Option Value) : Prop := match f with
  | none => r = none
  | some f => f.1 < 2 ∧ ∃ v, r = some v ∧ y_rF f v
/-- a method keeps its contract -/
def y_Mc (g : yQ) (I : ev_I) (ct : yCt) : Prop := ∀ hc as, y_in g hc → y_args ct.1 as → x_W none I 0 (lv_args 0 as) [] hc 0 0 (fun r hc' => y_ret ct.2.1 r ∧ y_in g hc' ∧ y_un ct.2.2 hc hc')
def y_Mca (g : yQ) (a : Nat) (ct : yCt) : Prop := ∀ r, ev_ms a = some r → y_Mc g r.1 ct
def y_Mt (h0 : yQ × ev_H) (I : ev_I) (m : List xv → yH → xE → yR) : Prop := ∀ as h env outs, m as h env = some outs → ∀ ρ hc, x_sat ρ env → (∀ v ∈ as, x_ok env.length v) → y_rH h0 env.length ρ h hc → ∀ Q : Option Value → ev_H → Prop,
  (∀ o ∈ outs, ∀ ρ' hc', x_ext env.length ρ ρ' → env.length ≤ o.2.2.2.2.1.length → x_sat ρ' o.2.2.2.2.1 → (∀ v ∈ o.2.2.1, x_ok o.2.2.2.2.1.length v) → y_rH h0 o.2.2.2.2.1.length ρ' o.2.2.2.1 hc' → Q ((o.2.2.1.map (x_in ρ')).head?) hc') → x_W none I 0 (lv_args 0 (as.map (x_in ρ))) [] hc 0 0 Q
def y_Ma (h0 : yQ × ev_H) (a : Nat) (m : List xv → yH → xE → yR) : Prop := ∀ r, ev_ms a = some r → y_Mt h0 r.1 m
noncomputable def y_rcv (g : yQ) (rc : Nat) (p : List xv × List xv) : Option (List xv × List xv) := match rc with
  | 0 => some p
  | c + 1 => match p.2 with
    | v :: r => match Nat.beq v.1 2 && Nat.beq v.2.1 0 with
      | true => match x_g g v.2.2.toNat with
        | some z => match Nat.beq z.1 2 && Nat.beq z.2.1 c with
          | true => some (v :: p.1, r)
          | false => none
        | none => none
      | false => none
    | [] => none
theorem y_ar_ok {g : yQ} {rc na : Nat} {st : List xv} {p q : List xv × List xv} (hp : x_pops na st [] = some p) (hq : y_rcv g rc p = some q) {n : Nat} {ρ : Nat → Int} {hc : ev_H} (hin : y_in g hc) (hst : ∀ v ∈ st, x_ok n v) : ev_ar rc na (st.map (x_in ρ)) hc = some (q.1.map (x_in ρ), q.2.map (x_in ρ)) ∧ (∀ v ∈ q.1, x_ok n v) ∧ ∀ v ∈ q.2, x_ok n v := by
  obtain ⟨as, r⟩ := p
  obtain ⟨h1, h2, h3⟩ := x_pops_ok na hp
  rw [List.append_nil] at h2
  have oa : ∀ v ∈ as, x_ok n v := fun v hv => hst v (List.mem_of_mem_take (List.mem_reverse.mp (by rw [← h2]; exact hv)))
  have or : ∀ v ∈ r, x_ok n v := fun v hv => hst v (List.mem_of_mem_drop (by rw [← h3]; exact hv))
  have m1 : ((st.map (x_in ρ)).take na).reverse = as.map (x_in ρ) := by rw [h2, List.map_reverse, List.map_take]
  have m2 : (st.map (x_in ρ)).drop na = r.map (x_in ρ) := by rw [h3, List.map_drop]
  unfold y_rcv at hq
  split at hq
  · cases hq
    refine ⟨?_, oa, or⟩
    show (if na ≤ (st.map (x_in ρ)).length then some (((st.map (x_in ρ)).take na).reverse, (st.map (x_in ρ)).drop na) else none) = _
    rw [if_pos (by rw [List.length_map]; exact h1), m1, m2]
  · rename_i c
    split at hq
    · rename_i v r' hv
      have hv : r = v :: r' := hv
      subst hv
      split at hq
      · rename_i hb0
        rw [Bool.and_eq_true] at hb0
        split at hq
        · rename_i z hz
          split at hq
          · rename_i hb
            cases hq
            rw [Bool.and_eq_true] at hb
            obtain ⟨cc, g3, g4⟩ := hin _ z hz
            obtain ⟨z1, z2, z3, z4⟩ := z
            have b1 : z1 = 2 := Nat.eq_of_beq_eq_true hb.1
            have b2 : z2 = c := Nat.eq_of_beq_eq_true hb.2
            subst b1
            subst b2
            obtain ⟨fs, e1, e2⟩ := g4
            subst e1
            have g1 : x_in ρ v = .ref v.2.2.toNat := by rw [x_in2 (Nat.eq_of_beq_eq_true hb0.1), x_vl0 (Nat.eq_of_beq_eq_true hb0.2)]
            refine ⟨?_, List.forall_mem_cons.mpr ⟨or v (by simp), oa⟩, fun w hw => or w (by simp [hw])⟩
            show (match (st.map (x_in ρ)).drop na with
              | .ref q :: r => match hc[q]? with
                | some (.inr (.inr o)) => match Nat.beq o.1 z2 with
                  | true => some (Value.ref q :: ((st.map (x_in ρ)).take na).reverse, r)
                  | false => none
                | _ => none
              | _ => none) = _
            rw [m2, m1, List.map_cons, g1]
            dsimp only
            rw [g3]
            dsimp only
            rw [Nat.beq_refl]
            dsimp only
            rw [List.map_cons, g1]
          · cases hq
        · cases hq
      · cases hq
    · cases hq
noncomputable def y_sq (f : yo → yR) (os : List yo) : yR := List.rec (motive := fun _ => yR) (some []) (fun o _ ih => match f o with
  | none => none
  | some l => match ih with
    | none => none
    | some l2 => some (l ++ l2)) os
theorem y_sq_ok {f : yo → yR} : ∀ {os : List yo} {res : List yo}, y_sq f os = some res → ∀ o ∈ os, ∃ l, f o = some l ∧ ∀ x ∈ l, x ∈ res := by
  intro os
  induction os with
  | nil => intro res _ o ho; cases ho
  | cons o0 os ih =>
    intro res h o ho
    have h : (match f o0 with
      | none => none
      | some l => match y_sq f os with
        | none => none
        | some l2 => some (l ++ l2)) = some res := h
    cases h1 : f o0 with
    | none => rw [h1] at h; cases h
    | some l =>
      rw [h1] at h
      dsimp only at h
      cases h2 : y_sq f os with
      | none => rw [h2] at h; cases h
      | some l2 =>
        rw [h2] at h
        cases h
        rcases List.mem_cons.mp ho with rfl | ho
        · exact ⟨l, h1, fun x z => List.mem_append_left _ z⟩
        · obtain ⟨l', i1, i2⟩ := ih h2 o ho
          exact ⟨l', i1, fun x z => List.mem_append_right _ (i2 x z)⟩
noncomputable def yo_cl (g : yQ) (m : List xv → yH → xE → yR) (rc na mx' mc' ms' mc ms : Nat) (next : yK) : yK := fun L st h env kc ks => match x_pops na st [] with
  | none => none
  | some p => match y_rcv g rc p with
    | none => none
    | some q => match Nat.ble (x_cs q.2) 8 && (Nat.ble (x_cs q.1) mx' && (Nat.ble (kc + mc') mc && Nat.ble (ks + ms') ms)) with
      | false => none
      | true => match m q.1 h env with
        | none => none
        | some outs => y_sq (fun o => match o.2.2.1 with
          | [] => next L q.2 o.2.2.2.1 o.2.2.2.2.1 (kc + mc') (ks + ms')
          | v :: r => match r with
            | [] => next L (v :: q.2) o.2.2.2.1 o.2.2.2.2.1 (kc + mc') (ks + ms')
            | _ :: _ => none) outs
/-- does a value fit what a contract takes? -/
noncomputable def y_ck (env : xE) (f : yF) (v : xv) : Bool := match Nat.beq f.1 v.1 with
  | false => false
  | true => match f.1 with
    | 2 => x_wi f.2.1 f.2.2.1 env v && x_le 0 f.2.1
    | _ => y_wi f.2 env v && y_rg env v
theorem y_ck_ok {env : xE} {f : yF} {v : xv} {ρ : Nat → Int} (hsat : x_sat ρ env) (h : y_ck env f v = true) : y_rA f (x_in ρ v) := by
  unfold y_ck at h
  split at h
  · cases h
  · rename_i hb
    have hb := Nat.eq_of_beq_eq_true hb
    unfold y_rA
    split at h
    · rename_i h2
      rw [Bool.and_eq_true] at h
      obtain ⟨w1, w2⟩ := x_wi_ok hsat h.1
      have w0 := x_le_iff.mp h.2
      exact ⟨(x_vl ρ v).toNat, x_in2 (by rw [← hb]; exact h2), by omega, by omega⟩
    · rename_i h2
      rw [Bool.and_eq_true] at h
      exact y_rf_ok hsat hb h.1 h.2
noncomputable def y_cks (env : xE) (fs : List yF) : List xv → Bool := List.rec (motive := fun _ => List xv → Bool) (fun vs => match vs with
  | [] => true
  | _ :: _ => false) (fun f _ ih vs => match vs with
  | v :: r => match y_ck env f v with
    | true => ih r
    | false => false
  | [] => false) fs
theorem y_cks_ok {env : xE} {ρ : Nat → Int} (hsat : x_sat ρ env) : ∀ {fs : List yF} {vs : List xv}, y_cks env fs vs = true → y_args fs (vs.map (x_in ρ)) := by
  intro fs
  induction fs with
  | nil =>
    intro vs h
    cases vs with
    | nil => exact ⟨rfl, fun k f v hk => by cases hk⟩
    | cons v r => cases h
  | cons f fs ih =>
    intro vs h
    cases vs with
    | nil => cases h
    | cons v r =>
      have h : (match y_ck env f v with
        | true => y_cks env fs r
        | false => false) = true := h
      cases hc : y_ck env f v with
      | false => rw [hc] at h; cases h
      | true =>
        rw [hc] at h
        obtain ⟨h1, h2⟩ := ih h
        refine ⟨by rw [List.map_cons, List.length_cons, List.length_cons, h1], fun k f' v' hk hv => ?_⟩
        cases k with
        | zero =>
          cases hk
          cases hv
          exact y_ck_ok hsat hc
        | succ k => exact h2 k f' v' hk hv
noncomputable def y_sub (md : yMd) (ms : yMd) : Bool := List.rec (motive := fun _ => Bool) true (fun e _ ih => match y_md e.1 e.2.1 e.2.2 md with
  | true => ih
  | false => false) ms
theorem y_sub_ok {md : yMd} : ∀ {ms : yMd}, y_sub md ms = true → ∀ q i, y_cov ms q i → y_cov md q i := by
  intro ms
  induction ms with
  | nil => intro _ q i h; obtain ⟨e, he, -⟩ := h; cases he
  | cons e ms ih =>
    intro h q i hc
    have h : (match y_md e.1 e.2.1 e.2.2 md with
      | true => y_sub md ms
      | false => false) = true := h
    cases hb : y_md e.1 e.2.1 e.2.2 md with
    | false => rw [hb] at h; cases h
    | true =>
      rw [hb] at h
      obtain ⟨e', he, h1, h2, h3⟩ := hc
      rcases List.mem_cons.mp he with rfl | he
      · rw [← h1]
        exact y_md_ok hb i h2 h3
      · exact ih h q i ⟨e', he, h1, h2, h3⟩
noncomputable def y_drs (ms : yMd) (ka : yKa) : yKa := List.rec (motive := fun _ => yKa) ka (fun e _ ih => y_dr e.1 e.1 e.2.1 e.2.2 ih) ms
theorem y_drs_ok {ka : yKa} {e : Nat × Nat × xv} : ∀ {ms : yMd}, e ∈ y_drs ms ka → e ∈ ka ∧ ¬ y_cov ms e.1 e.2.1 := by
  intro ms
  induction ms with
  | nil => intro h; exact ⟨h, fun hc => by obtain ⟨e', he, -⟩ := hc; cases he⟩
  | cons m ms ih =>
    intro h
    have h : e ∈ y_dr m.1 m.1 m.2.1 m.2.2 (y_drs ms ka) := h
    obtain ⟨h1, h2⟩ := y_dr_ok h
    obtain ⟨h3, h4⟩ := ih h1
    refine ⟨h3, fun hc => ?_⟩
    obtain ⟨e', he, i1, i2, i3⟩ := hc
    rcases List.mem_cons.mp he with rfl | he
    · exact h2 ⟨by omega, by omega, i2, i3⟩
    · exact h4 ⟨e', he, i1, i2, i3⟩
noncomputable def yo_ct (g : yQ) (ct : yCt) (rc na mx' mc' ms' mc ms : Nat) (next : yK) : yK := fun L st h env kc ks => match x_pops na st [] with
  | none => none
  | some p => match y_rcv g rc p with
    | none => none
    | some q => match Nat.ble (x_cs q.2) 8 && (Nat.ble (x_cs q.1) mx' && (Nat.ble (kc + mc') mc && (Nat.ble (ks + ms') ms && (y_cks env ct.1 q.1 && y_sub h.1 ct.2.2)))) with
      | false => none
      | true => match ct.2.1 with
        | none => next L q.2 (h.1, y_drs ct.2.2 h.2.1, h.2.2) env (kc + mc') (ks + ms')
        | some f => next L (x_kv (x_nw f.1 f.2 env).2 (x_nw f.1 f.2 env).1 :: q.2) (h.1, y_drs ct.2.2 h.2.1, h.2.2) (x_nw f.1 f.2 env).2 (kc + mc') (ks + ms')
section YCA
variable {h0 : yQ × ev_H} {scx : yX} {rt ini mx na rc fr lo mc ms : Nat} {t : ev_T} {pc pp0 a b pp : Nat} {i : Instr} {v : Value} {next : yK}
theorem y_un.tr {md ms : yMd} {h0 hc hc' : ev_H} (h : y_un md h0 hc) (h' : y_un ms hc hc') (hs : ∀ q i, y_cov ms q i → y_cov md q i) : y_un md h0 hc' := fun q i hn => (h' q i (fun z => hn (hs q i z))).trans (h q i hn)
theorem ys_ct (hf : ev_f t pc = some (pp0, i, a, b, pp, v)) (hk0 : ev_k i b = some 0) {rt' ini' mx' na' rc' fr' lo' mc' ms' : Nat} {t' : ev_T} {q9 : MethodName × ByteArray × Option FieldType × Nat × Nat × Nat × Nat} (hm : ev_ms a = some ((rt', ini', mx', na', rc', fr', lo', mc', ms', t'), q9))
    (hfit : (ev_fit i (rt', ini', mx', na', rc', fr', lo', mc', ms', t') && (Nat.ble (fr' + 1) fr && Nat.ble (8 + (mx' + 11) + lo') lo)) = true) {ct : yCt} (hM : y_Mca h0.1 a ct) (hn : y_S h0 scx (rt, ini, mx, na, rc, fr, lo, mc, ms, t) (pc + 3) next) :
    y_S h0 scx (rt, ini, mx, na, rc, fr, lo, mc, ms, t) pc (yo_ct h0.1 ct rc' na' mx' mc' ms' mc ms next) := by
  intro L st h env kc ks outs hk ρ sc Lc stc hc hX hG Q hQ
  obtain ⟨hsat, hL, hst, hin, hun, hca, hvn⟩ := hG
  unfold yo_ct at hk
  split at hk
  · cases hk
  · rename_i p hp
    split at hk
    · cases hk
    · rename_i q hq
      split at hk
      · cases hk
      · rename_i hb
        obtain ⟨ar, oa, or⟩ := y_ar_ok hp hq hin hst.2
        have hfit' := hfit
        simp only [Bool.and_eq_true] at hb hfit'
        obtain ⟨b1, b2, b3, b4, b5, b6⟩ := hb
        refine x_W_k hf hk0 hm (as := q.1.map (x_in ρ)) (r := q.2.map (x_in ρ)) (by rw [hst.1]; exact ar) ?_ ?_
        · rw [x_cs_ok, x_cs_ok, hfit'.1, hfit'.2.1, hfit'.2.2, b1, b2, b3, b4]
          rfl
        · obtain ⟨n, r, hc', e1, e2, e3, e4⟩ := hM _ hm hc (q.1.map (x_in ρ)) hin (y_cks_ok hsat b5)
          refine ⟨n, r, hc', e1, ?_⟩
          have hun' : y_un h.1 h0.2 hc' := hun.tr e4 (y_sub_ok b6)
          have hca' : y_ca env.length ρ (y_drs ct.2.2 h.2.1) hc' := fun e he => by
            obtain ⟨m1, m2⟩ := y_drs_ok he
            obtain ⟨n1, n2, n3⟩ := hca e m1
            exact ⟨n1, n2, by rw [e4 _ _ m2]; exact n3⟩
          split at hk
          · rename_i hr
            rw [hr] at e2
            have e2 : r = none := e2
            subst e2
            exact hn L q.2 _ env _ _ outs hk ρ sc Lc _ hc' hX ⟨hsat, hL, ⟨rfl, or⟩, e3, hun', hca', hvn⟩ Q hQ
          · rename_i f hr
            rw [hr] at e2
            obtain ⟨f2, w, w1, w2⟩ := e2
            subst w1
            have fin : ∀ ρ', x_ext env.length ρ ρ' → env.length ≤ (x_nw f.1 f.2 env).2.length → x_sat ρ' (x_nw f.1 f.2 env).2 → x_ok (x_nw f.1 f.2 env).2.length (x_nw f.1 f.2 env).1 → x_in ρ' (x_nw f.1 f.2 env).1 = w → x_W sc (rt, ini, mx, na, rc, fr, lo, mc, ms, t) (pc + 3) Lc ((some w).toList ++ q.2.map (x_in ρ)) hc' (kc + mc') (ks + ms') Q := by
              intro ρ' r1 r2 r3 r4 r5
              obtain ⟨-, v2, -, v4⟩ := x_kv_ok (v := (x_nw f.1 f.2 env).1) r3
              refine hn L _ _ (x_nw f.1 f.2 env).2 _ _ outs hk ρ' sc Lc _ hc' (hX.up r1 r2) ⟨r3, hL.up r1 r2, ⟨?_, List.forall_mem_cons.mpr ⟨v4 _ r4, fun z hz => (or z hz).up r2⟩⟩, e3, hun', hca'.up r1 r2, hvn.up r1 r2⟩ Q (fun o ho => (hQ o ho).up r1 r2)
              rw [List.map_cons, v2, r5, x_map_ext r1 or]
              rfl
            unfold y_rF at w2
            split at w2
            · rename_i hz
              obtain ⟨z, z1, z2⟩ := w2
              rw [hz] at fin
              obtain ⟨ρ', r1, r2, r3, r4, r5⟩ := x_nwi hsat z2
              exact fin ρ' r1 r2 r3 r4 (by rw [r5, z1])
            · rename_i hz
              obtain ⟨z, z1, z2⟩ := w2
              rw [hz] at fin
              obtain ⟨ρ', r1, r2, r3, r4, r5⟩ := x_nwl hsat z2
              exact fin ρ' r1 r2 r3 r4 (by rw [r5, z1])
            · rename_i n0 n1
              have hc2 : f.1 = 0 ∨ f.1 = 1 := by omega
              rcases hc2 with z | z
              · exact (n0 z).elim
              · exact (n1 z).elim
end YCA
/-! more rows over the other heap -/
section YMO
variable {h0 : yQ × ev_H} {scx : yX} {rt ini mx na rc fr lo mc ms : Nat} {t : ev_T} {pc pp0 a b pp : Nat} {i : Instr} {v : Value} {next : yK}
theorem ys_cl (hf : ev_f t pc = some (pp0, i, a, b, pp, v)) (hk0 : ev_k i b = some 0) {rt' ini' mx' na' rc' fr' lo' mc' ms' : Nat} {t' : ev_T} {q9 : MethodName × ByteArray × Option FieldType × Nat × Nat × Nat × Nat} (hm : ev_ms a = some ((rt', ini', mx', na', rc', fr', lo', mc', ms', t'), q9))
    (hfit : (ev_fit i (rt', ini', mx', na', rc', fr', lo', mc', ms', t') && (Nat.ble (fr' + 1) fr && Nat.ble (8 + (mx' + 11) + lo') lo)) = true) {m : List xv → yH → xE → yR} (hM : y_Ma h0 a m) (hn : y_S h0 scx (rt, ini, mx, na, rc, fr, lo, mc, ms, t) (pc + 3) next) : y_S h0 scx (rt, ini, mx, na, rc, fr, lo, mc, ms, t) pc (yo_cl h0.1 m rc' na' mx' mc' ms' mc ms next) := by
  intro L st h env kc ks outs hk ρ sc Lc stc hc hX hG Q hQ
  obtain ⟨hsat, hL, hst, hh⟩ := hG
  unfold yo_cl at hk
  split at hk
  · cases hk
  · rename_i p hp
    split at hk
    · cases hk
    · rename_i q hq
      split at hk
      · cases hk
      · rename_i hb
        split at hk
        · cases hk
        · rename_i os hos
          obtain ⟨ar, oa, or⟩ := y_ar_ok hp hq hh.1 hst.2
          have hfit' := hfit
          simp only [Bool.and_eq_true] at hb hfit'
          obtain ⟨b1, b2, b3, b4⟩ := hb
          refine x_W_k hf hk0 hm (as := q.1.map (x_in ρ)) (r := q.2.map (x_in ρ)) (by rw [hst.1]; exact ar) ?_ ?_
          · rw [x_cs_ok, x_cs_ok, hfit'.1, hfit'.2.1, hfit'.2.2, b1, b2, b3, b4]
            rfl
          · refine hM _ hm q.1 h env os hos ρ hc hsat oa hh _ (fun o ho ρ' hc' e1 e2 e3 e4 e5 => ?_)
            obtain ⟨l, l1, l2⟩ := y_sq_ok hk o ho
            have hl2 : ∀ x ∈ l, y_O h0 sc (rt, ini, mx, na, rc, fr, lo, mc, ms, t) Q ρ' o.2.2.2.2.1.length x := fun x hx => (hQ x (l2 x hx)).up e1 e2
            have hrr : x_rS o.2.2.2.2.1.length ρ' q.2 (q.2.map (x_in ρ)) := x_rS.up ⟨rfl, or⟩ e1 e2
            split at l1
            · rename_i h9
              rw [h9]
              exact hn L q.2 o.2.2.2.1 o.2.2.2.2.1 _ _ l l1 ρ' sc Lc _ hc' (hX.up e1 e2) ⟨e3, hL.up e1 e2, hrr, e5⟩ Q hl2
            · rename_i w r9 h9
              split at l1
              · rw [h9]
                refine hn L (w :: q.2) o.2.2.2.1 o.2.2.2.2.1 _ _ l l1 ρ' sc Lc _ hc' (hX.up e1 e2) ⟨e3, hL.up e1 e2, ⟨?_, List.forall_mem_cons.mpr ⟨e4 w (by rw [h9]; simp), hrr.2⟩⟩, e5⟩ Q hl2
                show x_in ρ' w :: q.2.map (x_in ρ) = x_in ρ' w :: q.2.map (x_in ρ')
                rw [← hrr.1]
              · cases l1
/-- the first contract that fits -/
noncomputable def y_pick (env : xE) (as : List xv) (cts : List yCt) : Option yCt := List.rec (motive := fun _ => Option yCt) none (fun ct _ ih => match y_cks env ct.1 as with
  | true => some ct
  | false => ih) cts
theorem y_pick_ok {env : xE} {as : List xv} {ct : yCt} : ∀ {cts : List yCt}, y_pick env as cts = some ct → ct ∈ cts := by
  intro cts
  induction cts with
  | nil => intro h; cases h
  | cons c cts ih =>
    intro h
    have h : (match y_cks env c.1 as with
      | true => some c
      | false => y_pick env as cts) = some ct := h
    cases hb : y_cks env c.1 as with
    | true => rw [hb] at h; cases h; exact List.mem_cons_self
    | false => rw [hb] at h; exact List.mem_cons_of_mem _ (ih h)
noncomputable def yo_cts (g : yQ) (cts : List yCt) (rc na mx' mc' ms' mc ms : Nat) (next : yK) : yK := fun L st h env kc ks => match x_pops na st [] with
  | none => none
  | some p => match y_rcv g rc p with
    | none => none
    | some q => match y_pick env q.1 cts with
      | none => none
      | some ct => yo_ct g ct rc na mx' mc' ms' mc ms next L st h env kc ks
theorem ys_cts (hf : ev_f t pc = some (pp0, i, a, b, pp, v)) (hk0 : ev_k i b = some 0) {rt' ini' mx' na' rc' fr' lo' mc' ms' : Nat} {t' : ev_T} {q9 : MethodName × ByteArray × Option FieldType × Nat × Nat × Nat × Nat} (hm : ev_ms a = some ((rt', ini', mx', na', rc', fr', lo', mc', ms', t'), q9))
    (hfit : (ev_fit i (rt', ini', mx', na', rc', fr', lo', mc', ms', t') && (Nat.ble (fr' + 1) fr && Nat.ble (8 + (mx' + 11) + lo') lo)) = true) {cts : List yCt} (hM : ∀ ct ∈ cts, y_Mca h0.1 a ct) (hn : y_S h0 scx (rt, ini, mx, na, rc, fr, lo, mc, ms, t) (pc + 3) next) : y_S h0 scx (rt, ini, mx, na, rc, fr, lo, mc, ms, t) pc (yo_cts h0.1 cts rc' na' mx' mc' ms' mc ms next) := by
  intro L st h env kc ks outs hk
  unfold yo_cts at hk
  split at hk
  · cases hk
  · split at hk
    · cases hk
    · split at hk
      · cases hk
      · rename_i ct hct
        exact ys_ct hf hk0 hm hfit (hM ct (y_pick_ok hct)) hn L st h env kc ks outs hk
/-- the top of the stack cut in two -/
noncomputable def yo_cutv (c : Int) (K : yK) : yK := fun L st h env kc ks => match st with
  | v :: _ => y_fk (x_rl 1 env v (0, 0, c)) (fun e => K L st h e kc ks) (x_rl 0 env (0, 0, c) v) (fun e => K L st h e kc ks)
  | [] => none
theorem ys_cutv {I : ev_I} {c : Int} {K : yK} (hK : y_S h0 scx I pc K) : y_S h0 scx I pc (yo_cutv c K) := by
  refine y_S_of fun L st h env kc ks outs hk ρ sc Lc stc hc hX hG => ?_
  obtain ⟨hsat, hL, hst, hh⟩ := hG
  unfold yo_cutv at hk
  split at hk
  · rename_i x r
    have fin : ∀ (env' : xE) (l : List yo), x_sat ρ env' → env'.length = env.length → K L (x :: r) h env' kc ks = some l → (∀ o ∈ l, o ∈ outs) → ∃ (next : yK) (pc' : Nat) (ρ' : Nat → Int) (L' st' : List xv) (h' : yH) (env' : xE) (kc' ks' : Nat) (Lc' : ev_L) (stc' : List Value) (hc' : ev_H) (outs' : List yo), y_S h0 scx I pc' next ∧ x_ext env.length ρ ρ' ∧ env.length ≤ env'.length ∧ y_G h0 ρ' env' L' st' h' Lc' stc' hc' ∧ next L' st' h' env' kc' ks' = some outs' ∧ (∀ o ∈ outs', o ∈ outs) ∧
        ∀ Q, x_W sc I pc' Lc' stc' hc' kc' ks' Q → x_W sc I pc Lc stc hc kc ks Q := fun env' l e1 e2 e3 e4 =>
      ⟨K, pc, ρ, L, x :: r, h, env', kc, ks, Lc, stc, hc, l, hK, x_ext.rf, Nat.le_of_eq e2.symm, ⟨e1, by rw [e2]; exact hL, by rw [e2]; exact hst, by rw [e2]; exact hh⟩, e3, e4, fun Q hQ => hQ⟩
    by_cases h1 : x_vl ρ x < c
    · obtain ⟨e1, g1, g2, g3⟩ := x_rl_ok (k := 1) (a := x) (b := (0, 0, c)) hsat (by show x_vl ρ x + 1 ≤ c; omega)
      obtain ⟨l, l1, l2⟩ := y_fk_1 hk g1
      exact fin e1 l g2 g3 l1 l2
    · obtain ⟨e1, g1, g2, g3⟩ := x_rl_ok (k := 0) (a := (0, 0, c)) (b := x) hsat (by show c + 0 ≤ x_vl ρ x; omega)
      obtain ⟨l, l1, l2⟩ := y_fk_2 hk g1
      exact fin e1 l g2 g3 l1 l2
  · cases hk
/-! division, once for the same numbers -/
noncomputable def y_vl (op : Nat) (a b : xv) (vn : yVn) : Option xv := List.rec (motive := fun _ => Option xv) none (fun e _ ih => match Nat.beq e.1 op && (Nat.beq e.2.1.2.1 a.2.1 && (x_eq e.2.1.2.2 a.2.2 && (Nat.beq e.2.2.1.2.1 b.2.1 && x_eq e.2.2.1.2.2 b.2.2))) with
  | true => some e.2.2.2
  | false => ih) vn
theorem y_vl_ok {op : Nat} {a b r : xv} : ∀ {vn : yVn}, y_vl op a b vn = some r → ∃ e ∈ vn, e.1 = op ∧ e.2.1.2 = a.2 ∧ e.2.2.1.2 = b.2 ∧ e.2.2.2 = r := by
  intro vn
  induction vn with
  | nil => intro h; cases h
  | cons e vn ih =>
    intro h
    have h : (match Nat.beq e.1 op && (Nat.beq e.2.1.2.1 a.2.1 && (x_eq e.2.1.2.2 a.2.2 && (Nat.beq e.2.2.1.2.1 b.2.1 && x_eq e.2.2.1.2.2 b.2.2))) with
      | true => some e.2.2.2
      | false => y_vl op a b vn) = some r := h
    cases hb : (Nat.beq e.1 op && (Nat.beq e.2.1.2.1 a.2.1 && (x_eq e.2.1.2.2 a.2.2 && (Nat.beq e.2.2.1.2.1 b.2.1 && x_eq e.2.2.1.2.2 b.2.2)))) with
    | true =>
      rw [hb] at h
      cases h
      simp only [Bool.and_eq_true] at hb
      obtain ⟨b1, b2, b3, b4, b5⟩ := hb
      exact ⟨e, List.mem_cons_self, Nat.eq_of_beq_eq_true b1, Prod.ext (Nat.eq_of_beq_eq_true b2) (x_eq_iff.mp b3), Prod.ext (Nat.eq_of_beq_eq_true b4) (x_eq_iff.mp b5), rfl⟩
    | false =>
      rw [hb] at h
      obtain ⟨e', g1, g2⟩ := ih h
      exact ⟨e', List.mem_cons_of_mem _ g1, g2⟩
noncomputable def yo_dv (op : Nat) (g : xE → xv → xv → Option (xv × xE)) (next : yK) : yK := fun L st h env kc ks => match st with
  | b :: st' => match st' with
    | a :: r => match Nat.beq b.1 0 && Nat.beq a.1 0 with
      | true => match a.2.1 + b.2.1 with
        | 0 => match g env a b with
          | some p => next L (p.1 :: r) h p.2 kc ks
          | none => none
        | _ + 1 => match y_vl op a b h.2.2 with
          | some w => next L (x_kv env w :: r) h env kc ks
          | none => match g env a b with
            | some p => match Nat.beq p.1.1 0 with
              | true => next L (p.1 :: r) (h.1, h.2.1, (op, a, b, p.1) :: h.2.2) p.2 kc ks
              | false => none
            | none => none
      | false => none
    | [] => none
  | [] => none
theorem ys_dv (hf : ev_f t pc = some (pp0, i, a, b, pp, v)) (hn : y_S h0 scx (rt, ini, mx, na, rc, fr, lo, mc, ms, t) (pc + ev_len i) next) {op : Nat} {g : xE → xv → xv → Option (xv × xE)} (hg : x_g2 0 0 (ev_s i v) g) (hop : ∀ x y r, y_vo op x y r ↔ ∀ l, ev_s i v (y :: x :: l) = some (r :: l)) : y_S h0 scx (rt, ini, mx, na, rc, fr, lo, mc, ms, t) pc (yo_dv op g next) := by
  refine y_S_of fun L st h env kc ks outs hk ρ sc Lc stc hc hX hG => ?_
  obtain ⟨hsat, hL, hst, hin, hun, hca, hvn⟩ := hG
  unfold yo_dv at hk
  split at hk
  · rename_i y st'
    split at hk
    · rename_i x r
      split at hk
      · rename_i hq
        rw [Bool.and_eq_true] at hq
        have q1 := Nat.eq_of_beq_eq_true hq.1
        have q2 := Nat.eq_of_beq_eq_true hq.2
        have o1 := hst.2 x (by simp)
        have o2 := hst.2 y (by simp)
        have hr : ∀ z ∈ r, x_ok env.length z := fun z hz => hst.2 z (by simp [hz])
        split at hk
        · split at hk
          · rename_i p hp
            obtain ⟨ρ', g1, g2, g3, g4, g5⟩ := hg env x y p ρ hp q2 q1 hsat o1 o2
            refine ⟨next, _, ρ', L, p.1 :: r, h, p.2, kc, ks, Lc, x_in ρ' p.1 :: r.map (x_in ρ), hc, outs, hn, g1, g2, ⟨g3, hL.up g1 g2, ⟨by rw [List.map_cons, x_map_ext g1 hr], List.forall_mem_cons.mpr ⟨g4, fun z hz => (hr z hz).up g2⟩⟩, hin, hun, hca.up g1 g2, hvn.up g1 g2⟩, hk, fun _ z => z, fun Q hQ => x_W_s hf ?_ hQ⟩
            rw [hst.1, List.map_cons, List.map_cons, g5]
          · cases hk
        · split at hk
          · rename_i w hw
            obtain ⟨e, e1, e2, e3, e4, e5⟩ := y_vl_ok hw
            obtain ⟨f1, f2, f3, f4, ⟨f6, f7⟩, f5⟩ := hvn e e1
            subst e5
            have ex : e.2.1 = x := Prod.ext (by rw [f6, q2]) e3
            have ey : e.2.2.1 = y := Prod.ext (by rw [f7, q1]) e4
            rw [ex, ey, e2, hop] at f5
            obtain ⟨-, v2, -, v4⟩ := x_kv_ok (v := e.2.2.2) hsat
            refine ⟨next, _, ρ, L, x_kv env e.2.2.2 :: r, h, env, kc, ks, Lc, x_in ρ e.2.2.2 :: r.map (x_in ρ), hc, outs, hn, x_ext.rf, Nat.le_refl _, ⟨hsat, hL, ⟨by rw [List.map_cons, v2], List.forall_mem_cons.mpr ⟨v4 _ f3, hr⟩⟩, hin, hun, hca, hvn⟩, hk, fun _ z => z, fun Q hQ => x_W_s hf ?_ hQ⟩
            rw [hst.1, List.map_cons, List.map_cons, f5]
          · split at hk
            · rename_i p hp
              split at hk
              · rename_i hp0
                obtain ⟨ρ', g1, g2, g3, g4, g5⟩ := hg env x y p ρ hp q2 q1 hsat o1 o2
                refine ⟨next, _, ρ', L, p.1 :: r, (h.1, h.2.1, (op, x, y, p.1) :: h.2.2), p.2, kc, ks, Lc, x_in ρ' p.1 :: r.map (x_in ρ), hc, outs, hn, g1, g2, ⟨g3, hL.up g1 g2, ⟨by rw [List.map_cons, x_map_ext g1 hr], List.forall_mem_cons.mpr ⟨g4, fun z hz => (hr z hz).up g2⟩⟩, hin, hun, hca.up g1 g2, fun e he => ?_⟩, hk, fun _ z => z, fun Q hQ => x_W_s hf ?_ hQ⟩
                · rcases List.mem_cons.mp he with rfl | he
                  · refine ⟨o1.up g2, o2.up g2, g4, Nat.eq_of_beq_eq_true hp0, ⟨q2, q1⟩, ?_⟩
                    rw [hop]
                    intro l
                    show ev_s i v (x_in ρ' y :: x_in ρ' x :: l) = _
                    rw [x_in_ext g1 o1, x_in_ext g1 o2]
                    exact g5 l
                  · exact (hvn.up g1 g2) e he
                · rw [hst.1, List.map_cons, List.map_cons, g5]
              · cases hk
            · cases hk
      · cases hk
    · cases hk
  · cases hk
end YMO
/-! arraycopy over the other heap; more numbers -/
noncomputable def y_cq (g : yQ) (md : yMd) (slo sm sp dlo dm dp : Nat) (n : Nat) : Bool := Nat.rec (motive := fun _ => Bool) true (fun k ih => match ih with
  | false => false
  | true => match y_hq g 0 slo (sp + k) 0 sm with
    | some e => y_wq g md 0 e dlo (dp + k) 0 dm
    | none => false) n
theorem y_cq_ok {g : yQ} {md : yMd} {slo sm sp dlo dm dp : Nat} : ∀ {n : Nat}, y_cq g md slo sm sp dlo dm dp n = true → ∀ k, k < n → ∃ e, y_hq g 0 slo (sp + k) 0 sm = some e ∧ y_wq g md 0 e dlo (dp + k) 0 dm = true := by
  intro n
  induction n with
  | zero => intro _ k hk; omega
  | succ n ih =>
    intro h k hk
    have h : (match y_cq g md slo sm sp dlo dm dp n with
      | false => false
      | true => match y_hq g 0 slo (sp + n) 0 sm with
        | some e => y_wq g md 0 e dlo (dp + n) 0 dm
        | none => false) = true := h
    cases hc : y_cq g md slo sm sp dlo dm dp n with
    | false => rw [hc] at h; cases h
    | true =>
      rw [hc] at h
      dsimp only at h
      by_cases hkn : k = n
      · subst hkn
        cases he : y_hq g 0 slo (sp + k) 0 sm with
        | none => rw [he] at h; cases h
        | some e => rw [he] at h; exact ⟨e, rfl, h⟩
      · exact ih hc k (by omega)
noncomputable def yo_cp (g : yQ) (fr lo : Nat) (next : yK) : yK := fun L st h env kc ks => match st with
  | n :: st1 => match st1 with
    | dp :: st2 => match st2 with
      | d :: st3 => match st3 with
        | sp :: st4 => match st4 with
          | s :: r => match x_ix n with
            | none => none
            | some kn => match x_ix dp with
              | none => none
              | some kd => match x_ix sp with
                | none => none
                | some kp => match y_bn env s with
                  | none => none
                  | some p0 => match y_bn env d with
                    | none => none
                    | some p1 => match Nat.beq s.1 2 && (Nat.beq d.1 2 && (Nat.ble 1 kn && (Nat.ble 1 fr && (Nat.ble (x_cs r + 18) lo && y_cq g h.1 p0.1 (p0.2 - p0.1) kp p1.1 (p1.2 - p1.1) kd kn)))) with
                      | false => none
                      | true => next L r (h.1, y_dr p1.1 p1.2 kd (kd + kn - 1) h.2.1, h.2.2) env kc ks
          | [] => none
        | [] => none
      | [] => none
    | [] => none
  | [] => none
section YCP
variable {h0 : yQ × ev_H} {scx : yX} {rt ini mx na rc fr lo mc ms : Nat} {t : ev_T} {pc pp0 a b pp : Nat} {i : Instr} {v : Value} {next : yK}
theorem ys_cp (hf : ev_f t pc = some (pp0, i, a, b, pp, v)) (hk2 : ev_k i b = some 2) (hn : y_S h0 scx (rt, ini, mx, na, rc, fr, lo, mc, ms, t) (pc + 3) next) : y_S h0 scx (rt, ini, mx, na, rc, fr, lo, mc, ms, t) pc (yo_cp h0.1 fr lo next) := by
  refine y_S_of fun L st h env kc ks outs hk ρ sc Lc stc hc hX hG => ?_
  obtain ⟨hsat, hL, hst, hin, hun, hca, hvn⟩ := hG
  unfold yo_cp at hk
  split at hk
  · rename_i xn st1
    split at hk
    · rename_i xdp st2
      split at hk
      · rename_i xd st3
        split at hk
        · rename_i xsp st4
          split at hk
          · rename_i xs9 r
            split at hk
            · cases hk
            · rename_i kn hkn
              split at hk
              · cases hk
              · rename_i kd hkd
                split at hk
                · cases hk
                · rename_i kp hkp
                  split at hk
                  · cases hk
                  · rename_i p0 hp0
                    split at hk
                    · cases hk
                    · rename_i p1 hp1
                      split at hk
                      · cases hk
                      · rename_i hq
                        obtain ⟨sl, su⟩ := p0
                        obtain ⟨dl, du⟩ := p1
                        simp only [Bool.and_eq_true] at hq
                        obtain ⟨z1, z2, z3, z5, z6, z7⟩ := hq
                        have z1 := Nat.eq_of_beq_eq_true z1
                        have z2 := Nat.eq_of_beq_eq_true z2
                        have z3 := Nat.le_of_ble_eq_true z3
                        have z5 := Nat.le_of_ble_eq_true z5
                        have z6 := Nat.le_of_ble_eq_true z6
                        obtain ⟨jn, n1, n2, n3⟩ := x_ix_ok hkn ρ
                        obtain ⟨jd, d1, d2, d3⟩ := x_ix_ok hkd ρ
                        obtain ⟨js, s1, s2, s3⟩ := x_ix_ok hkp ρ
                        obtain ⟨q0, a1, a2, a3, a4⟩ := y_bn_ok hp0 hsat
                        obtain ⟨q1, b1, b2, b3, b4⟩ := y_bn_ok hp1 hsat
                        have key := y_cq_ok z7
                        have src : ∀ k, k < kn → ∃ (xs : List Int32) (z : Int32) (e : Int × Int × Bool), hc[q0]? = some (.inl (0, xs)) ∧ xs[kp + k]? = some z ∧ x_s1 e z.toInt ∧ y_wq h0.1 h.1 0 e dl (kd + k) 0 (du - dl) = true := by
                          intro k hk9
                          obtain ⟨e, e1, e2⟩ := key k hk9
                          obtain ⟨xs, z, g1, g2, g3⟩ := y_hq_ok hin e1 q0 (kp + k) a2 (by omega) (Nat.le_refl _) (Nat.le_refl _)
                          exact ⟨xs, z, e, g1, g2, g3, e2⟩
                        obtain ⟨xs, -, -, hx0, -, -, -⟩ := src 0 (by omega)
                        have hxl : kp + kn ≤ xs.length := by
                          obtain ⟨xs', z, e, g1, g2, -, -⟩ := src (kn - 1) (by omega)
                          rw [hx0] at g1
                          cases g1
                          have := (List.getElem?_eq_some_iff.mp g2).1
                          omega
                        have dst : ∀ k, k < kn → ∀ e, y_wq h0.1 h.1 0 e dl (kd + k) 0 (du - dl) = true → ∃ (n : Nat) (d : List (List yF)) (ys : List Int32) (f : yF), x_g h0.1 q1 = some (0, 0, n, d) ∧ hc[q1]? = some (.inl (0, ys)) ∧ ys.length = n ∧ kd + k < n ∧ (∀ i f z, x_g d i = some f → ys[i]? = some z → x_s1 f.2 z.toInt) ∧ x_g d (kd + k) = some f ∧ y_le e f.2 = true ∧ y_cov h.1 q1 (kd + k) := by
                          intro k hk9 e he
                          exact y_wq_ok hin he q1 (kd + k) b2 (by omega) (Nat.le_refl _) (Nat.le_refl _)
                        obtain ⟨nd, dd, ys, hdg, hy0, hyl, hyr⟩ : ∃ (n : Nat) (d : List (List yF)) (ys : List Int32), x_g h0.1 q1 = some (0, 0, n, d) ∧ hc[q1]? = some (.inl (0, ys)) ∧ ys.length = n ∧ ∀ i f z, x_g d i = some f → ys[i]? = some z → x_s1 f.2 z.toInt := by
                          obtain ⟨_, _, e, _, _, _, g4⟩ := src 0 (by omega)
                          obtain ⟨n, d, ys, f, i1, i2, i3, i4, i5, i6, i7, i8⟩ := dst 0 (by omega) e g4
                          exact ⟨n, d, ys, i1, i2, i3, i5⟩
                        have hyl2 : kd + kn ≤ ys.length := by
                          obtain ⟨_, _, e, _, _, _, g4⟩ := src (kn - 1) (by omega)
                          obtain ⟨n, d, ys', f, i1, i2, i3, i4, -⟩ := dst (kn - 1) (by omega) e g4
                          rw [hdg] at i1
                          cases i1
                          omega
                        have hql := (List.getElem?_eq_some_iff.mp hy0).1
                        generalize hzs : ys.take kd ++ ((xs.drop kp).take kn ++ ys.drop (kd + kn)) = zs
                        have hzl : zs.length = ys.length := by rw [← hzs]; exact ev_cpl hxl hyl2
                        have hzg : ∀ j, zs.getD j 0 = va_cpy (fun i => xs.getD i 0) (fun i => ys.getD i 0) kp kd kn j := fun j => by rw [← hzs]; exact ev_cpg hxl hyl2
                        have hz? : ∀ j, j < ys.length → zs[j]? = some (zs.getD j 0) := fun j hj => by
                          rw [List.getD_eq_getElem?_getD, List.getElem?_eq_getElem (by omega)]
                          rfl
                        have hout : ∀ j, ¬ (kd ≤ j ∧ j < kd + kn) → zs[j]? = ys[j]? := fun j hj => by
                          by_cases hl : j < ys.length
                          · rw [hz? j hl, hzg]
                            unfold va_cpy
                            rw [if_neg hj]
                            show some (ys.getD j 0) = _
                            rw [List.getD_eq_getElem?_getD, List.getElem?_eq_getElem hl]
                            rfl
                          · rw [List.getElem?_eq_none (by omega), List.getElem?_eq_none (by omega)]
                        have hget : ∀ q' i', y_get (hc.set q1 (.inl (0, zs))) q' i' = if q' = q1 ∧ kd ≤ i' ∧ i' < kd + kn then y_get (hc.set q1 (.inl (0, zs))) q' i' else y_get hc q' i' := fun q' i' => by
                          by_cases hc9 : q' = q1 ∧ kd ≤ i' ∧ i' < kd + kn
                          · rw [if_pos hc9]
                          · rw [if_neg hc9]
                            unfold y_get
                            rw [List.getElem?_set]
                            by_cases e : q1 = q'
                            · subst e
                              rw [if_pos rfl, if_pos hql, hy0]
                              dsimp only
                              rw [hout i' (fun z => hc9 ⟨rfl, z⟩)]
                            · rw [if_neg e]
                        have hstc : stc = .int jn :: .int jd :: .ref q1 :: .int js :: .ref q0 :: r.map (x_in ρ) := by
                          rw [hst.1, List.map_cons, List.map_cons, List.map_cons, List.map_cons, List.map_cons, n1, d1, x_in2 z2, b1, s1, x_in2 z1, a1, Int.toNat_natCast, Int.toNat_natCast]
                        refine ⟨next, pc + 3, ρ, L, r, (h.1, y_dr dl du kd (kd + kn - 1) h.2.1, h.2.2), env, kc, ks, Lc, r.map (x_in ρ), hc.set q1 (.inl (0, zs)), outs, hn, x_ext.rf, Nat.le_refl _, ⟨hsat, hL, ⟨rfl, fun z hz => hst.2 z (by simp [hz])⟩, y_in_set hin (fun c hc' => ?_) hql, fun q' i' hnc => ?_, fun e he => ?_, hvn⟩, hk, fun _ z => z, fun Q hQ => x_W_c hf hk2 (st' := r.map (x_in ρ)) (hc' := hc.set q1 (.inl (0, zs))) ?_ z5 (by rw [x_cs_ok]; exact z6) hQ⟩
                        · rw [hdg] at hc'
                          cases hc'
                          refine ⟨zs, rfl, hzl.trans hyl, fun m f z hm hz => ?_⟩
                          by_cases hr : kd ≤ m ∧ m < kd + kn
                          · obtain ⟨xs', z', e, g1, g2, g3, g4⟩ := src (m - kd) (by omega)
                            rw [hx0] at g1
                            cases g1
                            obtain ⟨n, d, ys', f', i1, i2, i3, i4, i5, i6, i7, i8⟩ := dst (m - kd) (by omega) e g4
                            rw [hdg] at i1
                            cases i1
                            rw [show kd + (m - kd) = m by omega] at i6
                            have hm : x_g dd m = some f := hm
                            rw [i6] at hm
                            cases hm
                            rw [hz? m (by omega), hzg] at hz
                            unfold va_cpy at hz
                            rw [if_pos hr] at hz
                            have hz : some (xs.getD (kp + (m - kd)) 0) = some z := hz
                            rw [List.getD_eq_getElem?_getD, g2] at hz
                            cases hz
                            exact y_le_ok i7 g3
                          · rw [hout m hr] at hz
                            exact hyr m f z hm hz
                        · rw [hget, if_neg]
                          · exact hun q' i' hnc
                          · rintro ⟨rfl, w1, w2⟩
                            obtain ⟨_, _, e, _, _, _, g4⟩ := src (i' - kd) (by omega)
                            obtain ⟨n, d, ys', f', i1, i2, i3, i4, i5, i6, i7, i8⟩ := dst (i' - kd) (by omega) e g4
                            rw [show kd + (i' - kd) = i' by omega] at i8
                            exact hnc i8
                        · obtain ⟨m1, m2⟩ := y_dr_ok he
                          obtain ⟨k1, k2, k3⟩ := hca e m1
                          refine ⟨k1, k2, ?_⟩
                          rw [hget, if_neg]
                          · exact k3
                          · rintro ⟨w0, w1, w2⟩
                            exact m2 ⟨by omega, by omega, w1, by omega⟩
                        · rw [hstc]
                          show (match hc[q0]?, hc[q1]? with
                            | some (.inl (0, xs)), some (.inl (0, ys)) =>
                              if ¬ js < 0 ∧ ¬ jd < 0 ∧ ¬ jn < 0 ∧ js.toNatClampNeg + jn.toNatClampNeg ≤ xs.length ∧ jd.toNatClampNeg + jn.toNatClampNeg ≤ ys.length then
                                some (r.map (x_in ρ), hc.set q1 (.inl (0, ys.take jd.toNatClampNeg ++ ((xs.drop js.toNatClampNeg).take jn.toNatClampNeg ++ ys.drop (jd.toNatClampNeg + jn.toNatClampNeg)))))
                              else none
                            | _, _ => none) = _
                          rw [hx0, hy0]
                          show (if ¬ js < 0 ∧ ¬ jd < 0 ∧ ¬ jn < 0 ∧ js.toNatClampNeg + jn.toNatClampNeg ≤ xs.length ∧ jd.toNatClampNeg + jn.toNatClampNeg ≤ ys.length then
                                some (r.map (x_in ρ), hc.set q1 (.inl (0, ys.take jd.toNatClampNeg ++ ((xs.drop js.toNatClampNeg).take jn.toNatClampNeg ++ ys.drop (jd.toNatClampNeg + jn.toNatClampNeg)))))
                              else none) = _
                          rw [n2, d2, s2, if_pos ⟨s3, d3, n3, hxl, hyl2⟩, hzs]
          · cases hk
        · cases hk
      · cases hk
    · cases hk
  · cases hk
end YCP
/-! more numbers -/
noncomputable def yg_neg (env : xE) (a : xv) : Option (xv × xE) := match a.2.1 with
  | 0 => y_nrm env (0, 0, -a.2.2)
  | _ + 1 => match x_bd env a with
    | none => none
    | some p => some (x_nw 0 (y_fit (-p.2) (-p.1)) env)
theorem yg_neg_ok : x_g1 0 (ev_s .ineg .null) yg_neg := by
  intro env a p ρ hp ha hsat oa
  have hE : ∀ (x : Int32) (r : List Value), ev_s .ineg .null (.int x :: r) = some (.int (-x) :: r) := fun _ _ => rfl
  have fin : ((p.2 = env ∧ p.1.1 = 0 ∧ x_ok env.length p.1 ∧ Int32.ofInt (x_vl ρ p.1) = -Int32.ofInt (x_vl ρ a)) ∨ ∃ e, p = x_nw 0 e env ∧ x_s1 e (-Int32.ofInt (x_vl ρ a)).toInt) → ∃ ρ', x_ext env.length ρ ρ' ∧ env.length ≤ p.2.length ∧ x_sat ρ' p.2 ∧ x_ok p.2.length p.1 ∧ ∀ r, ev_s .ineg .null (x_in ρ a :: r) = some (x_in ρ' p.1 :: r) := by
    rintro (⟨h1, h2, h3, h4⟩ | ⟨e, h1, h2⟩)
    · exact ⟨ρ, x_ext.rf, by rw [h1]; exact Nat.le_refl _, by rw [h1]; exact hsat, by rw [h1]; exact h3, fun r => by rw [x_in0 ha, hE, x_in0 h2, h4]⟩
    · subst h1
      obtain ⟨ρ', g1, g2, g3, g4, g5⟩ := x_nwi hsat h2
      exact ⟨ρ', g1, g2, g3, g4, fun r => by rw [x_in0 ha, hE, g5]⟩
  apply fin
  unfold yg_neg at hp
  split at hp
  · rename_i h9
    refine y_nrm_ok hp rfl (Nat.zero_le _) ρ ?_
    rw [x_vl0 h9, ← Int32.ofInt_neg]
    rfl
  · split at hp
    · cases hp
    · rename_i q hq
      cases hp
      obtain ⟨l, u⟩ := q
      have b1 := x_bd_ok hsat hq
      refine Or.inr ⟨_, rfl, ?_⟩
      rw [← Int32.ofInt_neg]
      exact y_fit_ok (by dsimp only; omega) (by dsimp only; omega)
/-- a remainder, by what is below 0 too -/
noncomputable def yg_rem (env : xE) (a b : xv) : Option (xv × xE) := match x_wi (-2147483648) (-1) env b with
  | true => some (x_nw 0 x_fi env)
  | false => xg_rem env a b
theorem yg_rem_ok : x_g2 0 0 (ev_s .irem .null) yg_rem := by
  intro env a b p ρ hp ha hb hsat oa ob
  unfold yg_rem at hp
  split at hp
  · rename_i hw
    cases hp
    obtain ⟨w1, w2⟩ := x_wi_ok hsat hw
    have hne : ¬ Int32.ofInt (x_vl ρ b) = 0 := fun h => by
      have := congrArg Int32.toInt h
      rw [x_i32 w1 (by omega)] at this
      have e : (0 : Int32).toInt = 0 := by decide
      omega
    obtain ⟨ρ', g1, g2, g3, g4, g5⟩ := x_nwi hsat (x_fi_ok (Int32.ofInt (x_vl ρ a) - Int32.ofInt (x_vl ρ a) / Int32.ofInt (x_vl ρ b) * Int32.ofInt (x_vl ρ b)))
    refine ⟨ρ', g1, g2, g3, g4, fun r => ?_⟩
    rw [x_in0 ha, x_in0 hb, g5]
    show (if Int32.ofInt (x_vl ρ b) = 0 then none else some (Value.int (Int32.ofInt (x_vl ρ a) - Int32.ofInt (x_vl ρ a) / Int32.ofInt (x_vl ρ b) * Int32.ofInt (x_vl ρ b)) :: r)) = _
    rw [if_neg hne]
  · exact xg_rem_ok env a b p ρ hp ha hb hsat oa ob
