/-! tables of callees over the other heap; starts taken apart -/
theorem y_Mca_of {g : yQ} {a : Nat} {r : ev_R} {ct : yCt} (hr : ev_ms a = some r) (h : y_Mc g r.1 ct) : y_Mca g a ct := fun r' hr' => by
  rw [hr] at hr'
  cases hr'
  exact h
theorem y_Ma_of {h0 : yQ × ev_H} {a : Nat} {r : ev_R} {m : List xv → yH → xE → yR} (hr : ev_ms a = some r) (h : y_Mt h0 r.1 m) : y_Ma h0 a m := fun r' hr' => by
  rw [hr] at hr'
  cases hr'
  exact h
noncomputable def y_ic (k : Nat) (m : List xv → yH → xE → yR) (rest : Nat → Option (List xv → yH → xE → yR)) : Nat → Option (List xv → yH → xE → yR) := fun a => match Nat.beq a k with
  | true => some m
  | false => rest a
def y_i0 : Nat → Option (List xv → yH → xE → yR) := fun _ => none
theorem y_i0_ok {h0 : yQ × ev_H} : ∀ a m, y_i0 a = some m → y_Ma h0 a m := fun _ _ h => by cases h
theorem y_ic_ok {h0 : yQ × ev_H} {k : Nat} {m : List xv → yH → xE → yR} {rest : Nat → Option (List xv → yH → xE → yR)} (h : y_Ma h0 k m) (hr : ∀ a m, rest a = some m → y_Ma h0 a m) : ∀ a m', y_ic k m rest a = some m' → y_Ma h0 a m' := by
  intro a m' h9
  unfold y_ic at h9
  cases hb : Nat.beq a k with
  | true =>
    rw [hb] at h9
    cases h9
    have := Nat.eq_of_beq_eq_true hb
    subst this
    exact h
  | false => rw [hb] at h9; exact hr a m' h9
noncomputable def y_cc (k : Nat) (l : List yCt) (rest : Nat → List yCt) : Nat → List yCt := fun a => match Nat.beq a k with
  | true => l
  | false => rest a
def y_c0 : Nat → List yCt := fun _ => []
theorem y_c0_ok {g : yQ} : ∀ a, ∀ ct ∈ y_c0 a, y_Mca g a ct := fun _ _ h => by cases h
theorem y_cc_ok {g : yQ} {k : Nat} {l : List yCt} {rest : Nat → List yCt} (h : ∀ ct ∈ l, y_Mca g k ct) (hr : ∀ a, ∀ ct ∈ rest a, y_Mca g a ct) : ∀ a, ∀ ct ∈ y_cc k l rest a, y_Mca g a ct := by
  intro a ct h9
  unfold y_cc at h9
  cases hb : Nat.beq a k with
  | true =>
    rw [hb] at h9
    have := Nat.eq_of_beq_eq_true hb
    subst this
    exact h ct h9
  | false => rw [hb] at h9; exact hr a ct h9
theorem y_l1 {g : yQ} {k : Nat} {ct : yCt} {l : List yCt} (h : y_Mca g k ct) (hr : ∀ c ∈ l, y_Mca g k c) : ∀ c ∈ ct :: l, y_Mca g k c := List.forall_mem_cons.mpr ⟨h, hr⟩
theorem y_l0 {g : yQ} {k : Nat} : ∀ c ∈ ([] : List yCt), y_Mca g k c := fun _ h => by cases h
/-- a location's value taken one by one, from lo to lo + m -/
noncomputable def y_spl (q i : Nat) (k : Nat) (o : yo) (lo : Int) (m : Nat) : List yo := Nat.rec (motive := fun _ => List yo) [(o.1, o.2.1, o.2.2.1, (o.2.2.2.1.1, (q, i, (k, 0, lo)) :: o.2.2.2.1.2.1, o.2.2.2.1.2.2), o.2.2.2.2.1, o.2.2.2.2.2.1, o.2.2.2.2.2.2)] (fun j ih => (o.1, o.2.1, o.2.2.1, (o.2.2.2.1.1, (q, i, (k, 0, lo + (j + 1 : Nat))) :: o.2.2.2.1.2.1, o.2.2.2.1.2.2), o.2.2.2.2.1, o.2.2.2.2.2.1, o.2.2.2.2.2.2) :: ih) m
theorem y_spl_in {q i k : Nat} {o : yo} {lo : Int} : ∀ {m : Nat} (j : Nat), j ≤ m → (o.1, o.2.1, o.2.2.1, (o.2.2.2.1.1, (q, i, (k, 0, lo + (j : Int))) :: o.2.2.2.1.2.1, o.2.2.2.1.2.2), o.2.2.2.2.1, o.2.2.2.2.2.1, o.2.2.2.2.2.2) ∈ y_spl q i k o lo m := by
  intro m
  induction m with
  | zero =>
    intro j hj
    have : j = 0 := by omega
    subst this
    have e : lo + ((0 : Nat) : Int) = lo := by omega
    rw [e]
    exact List.mem_singleton.mpr rfl
  | succ m ih =>
    intro j hj
    by_cases h : j = m + 1
    · subst h
      exact List.mem_cons_self
    · exact List.mem_cons_of_mem _ (ih j (by omega))
theorem y_spl_ok {g : yQ} {hc0 : ev_H} {I : ev_I} {Q : Option Value → ev_H → Prop} {q i : Nat} {o : yo} {lo : Int} {m : Nat} {c : yC} {f : yF} (hc : x_g g q = some c) (h2 : c.1 = 2) (hf : x_g c.2.2.2 i = some f) (hf0 : f = (0, lo, lo + (m : Int), false)) (h : ∀ x ∈ y_spl q i 0 o lo m, y_P (g, hc0) I Q x) : y_P (g, hc0) I Q o := by
  intro ρ Lc stc hc9 hG
  obtain ⟨hsat, hL, hst, hin, hun, hca, hvn⟩ := hG
  obtain ⟨cc, g1, g2⟩ := hin q c hc
  obtain ⟨c1, c2, c3, c4⟩ := c
  have h2 : c1 = 2 := h2
  subst h2
  obtain ⟨fs, e1, e2⟩ := g2
  subst e1
  obtain ⟨v, v1, v2⟩ := e2 i f hf
  subst hf0
  obtain ⟨z, z1, z2⟩ := v2
  subst z1
  rcases z2 with ⟨z2, z3⟩ | ⟨z2, -⟩
  · have z2 : lo ≤ z.toInt := z2
    have z3 : z.toInt ≤ lo + (m : Int) := z3
    have := h _ (y_spl_in (z.toInt - lo).toNat (by omega)) ρ Lc stc hc9 ⟨hsat, hL, hst, hin, hun, fun e he => by
      rcases List.mem_cons.mp he with rfl | he
      · refine ⟨by show 0 < 2; decide, Nat.zero_le _, ?_⟩
        show y_get hc9 q i = some (.int (Int32.ofInt (lo + (((z.toInt - lo).toNat : Nat) : Int))))
        rw [y_get_o g1, v1, show lo + (((z.toInt - lo).toNat : Nat) : Int) = z.toInt by omega, Int32.ofInt_toInt]
      · exact hca e he, hvn⟩
    exact this
  · cases z2
/-- a symbol cut in two -/
noncomputable def y_sct (s : Nat) (c : Int) (o : yo) : List yo := (match x_rl 1 o.2.2.2.2.1 (0, s + 1, 0) (0, 0, c) with
  | some e => [(o.1, o.2.1, o.2.2.1, o.2.2.2.1, e, o.2.2.2.2.2.1, o.2.2.2.2.2.2)]
  | none => []) ++ (match x_rl 0 o.2.2.2.2.1 (0, 0, c) (0, s + 1, 0) with
  | some e => [(o.1, o.2.1, o.2.2.1, o.2.2.2.1, e, o.2.2.2.2.2.1, o.2.2.2.2.2.2)]
  | none => [])
theorem y_sct_ok {h0 : yQ × ev_H} {I : ev_I} {Q : Option Value → ev_H → Prop} {s : Nat} {c : Int} {o : yo} (h : ∀ x ∈ y_sct s c o, y_P h0 I Q x) : y_P h0 I Q o := by
  intro ρ Lc stc hc hG
  obtain ⟨hsat, hL, hst, hh⟩ := hG
  have fin : ∀ e : xE, x_sat ρ e → e.length = o.2.2.2.2.1.length → (o.1, o.2.1, o.2.2.1, o.2.2.2.1, e, o.2.2.2.2.2.1, o.2.2.2.2.2.2) ∈ y_sct s c o → (match o.1 with
      | 0 => Q stc.head? hc
      | p + 1 => x_W none I p Lc stc hc o.2.2.2.2.2.1 o.2.2.2.2.2.2 Q) := fun e h1 h2 h3 => h _ h3 ρ Lc stc hc ⟨h1, by show x_rL e.length ρ o.2.1 Lc; rw [h2]; exact hL, by show x_rS e.length ρ o.2.2.1 stc; rw [h2]; exact hst, by show y_rH h0 e.length ρ o.2.2.2.1 hc; rw [h2]; exact hh⟩
  by_cases hlt : ρ s < c
  · obtain ⟨e, g1, g2, g3⟩ := x_rl_ok (k := 1) (a := (0, s + 1, 0)) (b := (0, 0, c)) hsat (by show ρ s + 0 + 1 ≤ c; omega)
    refine fin e g2 g3 ?_
    unfold y_sct
    rw [g1]
    exact List.mem_append_left _ (List.mem_singleton.mpr rfl)
  · obtain ⟨e, g1, g2, g3⟩ := x_rl_ok (k := 0) (a := (0, 0, c)) (b := (0, s + 1, 0)) hsat (by show c + 0 ≤ ρ s + 0; omega)
    refine fin e g2 g3 ?_
    unfold y_sct
    rw [g1]
    exact List.mem_append_right _ (List.mem_singleton.mpr rfl)
noncomputable def y_all (f : yo → Bool) (l : List yo) : Bool := List.rec (motive := fun _ => Bool) true (fun x _ ih => match f x with
  | true => ih
  | false => false) l
theorem y_all_ok {f : yo → Bool} : ∀ {l : List yo}, y_all f l = true → ∀ x ∈ l, f x = true := by
  intro l
  induction l with
  | nil => intro _ x hx; cases hx
  | cons y r ih =>
    intro h x hx
    have h : (match f y with
      | true => y_all f r
      | false => false) = true := h
    cases hf : f y with
    | false => rw [hf] at h; cases h
    | true =>
      rw [hf] at h
      rcases List.mem_cons.mp hx with rfl | hx
      · exact hf
      · exact ih h x hx
