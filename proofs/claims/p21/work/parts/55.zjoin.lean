/-! joins and a driver that keep the first symbols (a prefix) as they are -/
def z_kp (pr : Nat) (x y : xv) : Bool := Nat.beq x.1 y.1 && (Nat.beq x.2.1 y.2.1 && (x_eq x.2.2 y.2.2 && Nat.ble x.2.1 pr))
noncomputable def z_hp (pr : Nat) : xE → xE → Option xE := Nat.rec (motive := fun _ => xE → xE → Option xE) (fun _ _ => some []) (fun _ ih ea eb => match ea with
  | [] => none
  | e :: ra => match eb with
    | [] => none
    | f :: rb => match ih ra rb with
      | some r => some (y_hu e f :: r)
      | none => none) pr
theorem z_hp_in : ∀ {pr : Nat} {ea eb r : xE}, z_hp pr ea eb = some r → r.length = pr ∧ ∀ (i : Nat) (e : Int × Int × Bool), r[i]? = some e → ∃ a b, ea[i]? = some a ∧ eb[i]? = some b ∧ e = y_hu a b := by
  intro pr
  induction pr with
  | zero =>
    intro ea eb r h
    cases h
    exact ⟨rfl, fun i e hi => by cases hi⟩
  | succ n ih =>
    intro ea eb r h
    cases ea with
    | nil => cases h
    | cons e ra =>
      cases eb with
      | nil => cases h
      | cons f rb =>
        have h : (match z_hp n ra rb with
          | some r => some (y_hu e f :: r)
          | none => none) = some r := h
        cases hr : z_hp n ra rb with
        | none => rw [hr] at h; cases h
        | some r' =>
          rw [hr] at h
          cases h
          obtain ⟨h1, h2⟩ := ih hr
          refine ⟨by rw [List.length_cons, h1], fun i e' hi => ?_⟩
          cases i with
          | zero => cases hi; exact ⟨e, f, rfl, rfl, rfl⟩
          | succ i => exact h2 i e' hi
theorem z_hp_ok {pr : Nat} {ea eb r : xE} (h : z_hp pr ea eb = some r) (s : Bool) {ρ : Nat → Int} (h1 : x_sat ρ (y_sl s ea eb)) : x_sat ρ r := fun i e hi => by
  obtain ⟨a, b, g1, g2, g3⟩ := (z_hp_in h).2 i e hi
  subst g3
  cases s with
  | true => exact y_hu_l (h1 i a g1)
  | false => exact y_hu_r (h1 i b g2)
noncomputable def z_jv (pr : Nat) (ea eb : xE) (x y : xv) (env : xE) : Option (xv × xE) := match z_kp pr x y with
  | true => some (x, env)
  | false => y_jv ea eb x y env
theorem z_jv_ok {pr : Nat} {ea eb env : xE} {x y : xv} {p : xv × xE} (hp : z_jv pr ea eb x y env = some p) (s : Bool) {ρ ρ' : Nat → Int} (h1 : x_sat ρ (y_sl s ea eb)) (h2 : x_sat ρ' env) (hl9 : pr ≤ env.length) (hx9 : x_ext pr ρ ρ') : ∃ ρ'', x_ext env.length ρ' ρ'' ∧ env.length ≤ p.2.length ∧ x_sat ρ'' p.2 ∧ x_ok p.2.length p.1 ∧ p.1.1 = (y_sl s x y).1 ∧ x_in ρ'' p.1 = x_in ρ (y_sl s x y) := by
  unfold z_jv at hp
  split at hp
  · rename_i hs
    cases hp
    unfold z_kp at hs
    simp only [Bool.and_eq_true] at hs
    obtain ⟨k1, k2, k3, k4⟩ := hs
    have k1 := Nat.eq_of_beq_eq_true k1
    have k2 := Nat.eq_of_beq_eq_true k2
    have k3 := x_eq_iff.mp k3
    have k4 : x.2.1 ≤ pr := Nat.le_of_ble_eq_true k4
    have e1 : y = x := (Prod.ext k1 (Prod.ext k2 k3)).symm
    subst e1
    have hx : y_sl s y y = y := by cases s <;> rfl
    rw [hx]
    exact ⟨ρ', x_ext.rf, Nat.le_refl _, h2, Nat.le_trans k4 hl9, rfl, x_in_ext hx9 k4⟩
  · exact y_jv_ok hp s h1 h2
/-- locals -/
noncomputable def z_jL (pr : Nat) (ea eb : xE) (l1 : List xv) : List xv → xE → List xv × xE := List.rec (motive := fun _ => List xv → xE → List xv × xE) (fun _ env => ([], env)) (fun x _ ih l2 env => match l2 with
  | [] => ([], env)
  | y :: r2 => match z_jv pr ea eb x y env with
    | some p => (p.1 :: (ih r2 p.2).1, (ih r2 p.2).2)
    | none => ((9, 0, 0) :: (ih r2 env).1, (ih r2 env).2)) l1
theorem z_jL_ok {pr : Nat} {ea eb : xE} (s : Bool) {ρ : Nat → Int} (h1 : x_sat ρ (y_sl s ea eb)) : ∀ {l1 l2 : List xv} {env : xE} {ρ' : Nat → Int}, x_sat ρ' env → pr ≤ env.length → x_ext pr ρ ρ' → ∃ ρ'', x_ext env.length ρ' ρ'' ∧ env.length ≤ (z_jL pr ea eb l1 l2 env).2.length ∧ x_sat ρ'' (z_jL pr ea eb l1 l2 env).2 ∧ ∀ (k : Nat) (v : xv), (z_jL pr ea eb l1 l2 env).1[k]? = some v → v.1 < 4 → x_ok (z_jL pr ea eb l1 l2 env).2.length v ∧ ∃ w, (y_sl s l1 l2)[k]? = some w ∧ w.1 = v.1 ∧ x_in ρ'' v = x_in ρ w := by
  intro l1
  induction l1 with
  | nil =>
    intro l2 env ρ' h2 hl9 hx9
    exact ⟨ρ', x_ext.rf, Nat.le_refl _, h2, fun k v hk => by cases hk⟩
  | cons x r ih =>
    intro l2 env ρ' h2 hl9 hx9
    cases l2 with
    | nil => exact ⟨ρ', x_ext.rf, Nat.le_refl _, h2, fun k v hk => by cases hk⟩
    | cons y r2 =>
      have e : z_jL pr ea eb (x :: r) (y :: r2) env = (match z_jv pr ea eb x y env with
        | some p => (p.1 :: (z_jL pr ea eb r r2 p.2).1, (z_jL pr ea eb r r2 p.2).2)
        | none => ((9, 0, 0) :: (z_jL pr ea eb r r2 env).1, (z_jL pr ea eb r r2 env).2)) := rfl
      have hc : ∀ k, (y_sl s (x :: r) (y :: r2))[k + 1]? = (y_sl s r r2)[k]? := fun k => by cases s <;> rfl
      have hh : (y_sl s (x :: r) (y :: r2))[0]? = some (y_sl s x y) := by cases s <;> rfl
      rw [e]
      cases hp : z_jv pr ea eb x y env with
      | some p =>
        obtain ⟨ρ1, g1, g2, g3, g4, g5, g6⟩ := z_jv_ok hp s h1 h2 hl9 hx9
        obtain ⟨ρ2, i1, i2, i3, i4⟩ := ih (l2 := r2) g3 (Nat.le_trans hl9 g2) (hx9.tr hl9 g1)
        refine ⟨ρ2, g1.tr g2 i1, Nat.le_trans g2 i2, i3, fun k v hk h4 => ?_⟩
        cases k with
        | zero =>
          cases hk
          exact ⟨g4.up i2, _, hh, g5.symm, (x_in_ext i1 g4).trans g6⟩
        | succ k =>
          obtain ⟨j1, w, j2, j3, j4⟩ := i4 k v hk h4
          exact ⟨j1, w, (hc k).trans j2, j3, j4⟩
      | none =>
        obtain ⟨ρ2, i1, i2, i3, i4⟩ := ih (l2 := r2) h2 hl9 hx9
        refine ⟨ρ2, i1, i2, i3, fun k v hk h4 => ?_⟩
        cases k with
        | zero =>
          cases hk
          exact absurd h4 (by decide)
        | succ k =>
          obtain ⟨j1, w, j2, j3, j4⟩ := i4 k v hk h4
          exact ⟨j1, w, (hc k).trans j2, j3, j4⟩
/-- the stack -/
noncomputable def z_jS (pr : Nat) (ea eb : xE) (l1 : List xv) : List xv → xE → Option (List xv × xE) := List.rec (motive := fun _ => List xv → xE → Option (List xv × xE)) (fun l2 env => match l2 with
  | [] => some ([], env)
  | _ :: _ => none) (fun x _ ih l2 env => match l2 with
  | [] => none
  | y :: r2 => match z_jv pr ea eb x y env with
    | some p => match ih r2 p.2 with
      | some q => some (p.1 :: q.1, q.2)
      | none => none
    | none => none) l1
theorem z_jS_ok {pr : Nat} {ea eb : xE} (s : Bool) {ρ : Nat → Int} (h1 : x_sat ρ (y_sl s ea eb)) : ∀ {l1 l2 : List xv} {env : xE} {ρ' : Nat → Int} {q : List xv × xE}, z_jS pr ea eb l1 l2 env = some q → x_sat ρ' env → pr ≤ env.length → x_ext pr ρ ρ' → ∃ ρ'', x_ext env.length ρ' ρ'' ∧ env.length ≤ q.2.length ∧ x_sat ρ'' q.2 ∧ (∀ v ∈ q.1, x_ok q.2.length v) ∧ q.1.map (x_in ρ'') = (y_sl s l1 l2).map (x_in ρ) := by
  intro l1
  induction l1 with
  | nil =>
    intro l2 env ρ' q hq h2 hl9 hx9
    cases l2 with
    | nil => cases hq; exact ⟨ρ', x_ext.rf, Nat.le_refl _, h2, fun v hv => (by cases hv), by cases s <;> rfl⟩
    | cons y r2 => cases hq
  | cons x r ih =>
    intro l2 env ρ' q hq h2 hl9 hx9
    cases l2 with
    | nil => cases hq
    | cons y r2 =>
      have hq : (match z_jv pr ea eb x y env with
        | some p => match z_jS pr ea eb r r2 p.2 with
          | some q => some (p.1 :: q.1, q.2)
          | none => none
        | none => none) = some q := hq
      cases hp : z_jv pr ea eb x y env with
      | none => rw [hp] at hq; cases hq
      | some p =>
        rw [hp] at hq
        dsimp only at hq
        cases hr : z_jS pr ea eb r r2 p.2 with
        | none => rw [hr] at hq; cases hq
        | some q' =>
          rw [hr] at hq
          cases hq
          obtain ⟨ρ1, g1, g2, g3, g4, g5, g6⟩ := z_jv_ok hp s h1 h2 hl9 hx9
          obtain ⟨ρ2, i1, i2, i3, i4, i5⟩ := ih hr g3 (Nat.le_trans hl9 g2) (hx9.tr hl9 g1)
          refine ⟨ρ2, g1.tr g2 i1, Nat.le_trans g2 i2, i3, List.forall_mem_cons.mpr ⟨g4.up i2, i4⟩, ?_⟩
          rw [List.map_cons, i5, x_in_ext i1 g4, g6]
          cases s <;> rfl
/-- the cache -/
noncomputable def z_jC (pr : Nat) (ea eb : xE) (kb : yKa) (ka : yKa) : xE → yKa × xE := List.rec (motive := fun _ => xE → yKa × xE) (fun env => ([], env)) (fun e _ ih env => match y_lk e.1 e.2.1 kb with
  | some y => match z_jv pr ea eb e.2.2 y env with
    | some p => ((e.1, e.2.1, p.1) :: (ih p.2).1, (ih p.2).2)
    | none => ih env
  | none => ih env) ka
theorem z_jC_ok {pr : Nat} {ea eb : xE} {kb : yKa} (s : Bool) {ρ : Nat → Int} (h1 : x_sat ρ (y_sl s ea eb)) : ∀ {ka : yKa} {env : xE} {ρ' : Nat → Int}, x_sat ρ' env → pr ≤ env.length → x_ext pr ρ ρ' → ∃ ρ'', x_ext env.length ρ' ρ'' ∧ env.length ≤ (z_jC pr ea eb kb ka env).2.length ∧ x_sat ρ'' (z_jC pr ea eb kb ka env).2 ∧ ∀ e ∈ (z_jC pr ea eb kb ka env).1, x_ok (z_jC pr ea eb kb ka env).2.length e.2.2 ∧ ∃ w, (e.1, e.2.1, w) ∈ y_sl s ka kb ∧ w.1 = e.2.2.1 ∧ x_in ρ'' e.2.2 = x_in ρ w := by
  intro ka
  induction ka with
  | nil =>
    intro env ρ' h2 hl9 hx9
    exact ⟨ρ', x_ext.rf, Nat.le_refl _, h2, fun e he => by cases he⟩
  | cons e0 r ih =>
    intro env ρ' h2 hl9 hx9
    have e9 : z_jC pr ea eb kb (e0 :: r) env = (match y_lk e0.1 e0.2.1 kb with
      | some y => match z_jv pr ea eb e0.2.2 y env with
        | some p => ((e0.1, e0.2.1, p.1) :: (z_jC pr ea eb kb r p.2).1, (z_jC pr ea eb kb r p.2).2)
        | none => z_jC pr ea eb kb r env
      | none => z_jC pr ea eb kb r env) := rfl
    have up : ∀ z, z ∈ y_sl s r kb → z ∈ y_sl s (e0 :: r) kb := fun z hz => by
      cases s with
      | true => exact List.mem_cons_of_mem _ hz
      | false => exact hz
    have skip : ∃ ρ'', x_ext env.length ρ' ρ'' ∧ env.length ≤ (z_jC pr ea eb kb r env).2.length ∧ x_sat ρ'' (z_jC pr ea eb kb r env).2 ∧ ∀ e ∈ (z_jC pr ea eb kb r env).1, x_ok (z_jC pr ea eb kb r env).2.length e.2.2 ∧ ∃ w, (e.1, e.2.1, w) ∈ y_sl s (e0 :: r) kb ∧ w.1 = e.2.2.1 ∧ x_in ρ'' e.2.2 = x_in ρ w := by
      obtain ⟨ρ2, i1, i2, i3, i4⟩ := ih h2 hl9 hx9
      refine ⟨ρ2, i1, i2, i3, fun e he => ?_⟩
      obtain ⟨j1, w, j2, j3, j4⟩ := i4 e he
      exact ⟨j1, w, up _ j2, j3, j4⟩
    rw [e9]
    cases hy : y_lk e0.1 e0.2.1 kb with
    | none => exact skip
    | some y =>
      dsimp only
      cases hp : z_jv pr ea eb e0.2.2 y env with
      | none => exact skip
      | some p =>
        obtain ⟨ρ1, g1, g2, g3, g4, g5, g6⟩ := z_jv_ok hp s h1 h2 hl9 hx9
        obtain ⟨ρ2, i1, i2, i3, i4⟩ := ih g3 (Nat.le_trans hl9 g2) (hx9.tr hl9 g1)
        refine ⟨ρ2, g1.tr g2 i1, Nat.le_trans g2 i2, i3, fun e he => ?_⟩
        rcases List.mem_cons.mp he with rfl | he
        · refine ⟨g4.up i2, y_sl s e0.2.2 y, ?_, g5.symm, (x_in_ext i1 g4).trans g6⟩
          cases s with
          | true => exact List.mem_cons_self
          | false => exact y_lk_ok hy
        · obtain ⟨j1, w, j2, j3, j4⟩ := i4 e he
          exact ⟨j1, w, up _ j2, j3, j4⟩
/-- two states at one place -/
noncomputable def z_jn (pr : Nat) (a b : yo) : Option yo := match Nat.beq a.1 b.1 && (Nat.beq a.2.2.2.2.2.1 b.2.2.2.2.2.1 && (Nat.beq a.2.2.2.2.2.2 b.2.2.2.2.2.2 && y_mq a.2.2.2.1.1 b.2.2.2.1.1)) with
  | false => none
  | true => match z_hp pr a.2.2.2.2.1 b.2.2.2.2.1 with
    | none => none
    | some e0 => match z_jS pr a.2.2.2.2.1 b.2.2.2.2.1 a.2.2.1 b.2.2.1 (z_jL pr a.2.2.2.2.1 b.2.2.2.2.1 a.2.1 b.2.1 e0).2 with
      | none => none
      | some q => some (a.1, (z_jL pr a.2.2.2.2.1 b.2.2.2.2.1 a.2.1 b.2.1 e0).1, q.1, (a.2.2.2.1.1, (z_jC pr a.2.2.2.2.1 b.2.2.2.2.1 b.2.2.2.1.2.1 a.2.2.2.1.2.1 q.2).1, []), (z_jC pr a.2.2.2.2.1 b.2.2.2.2.1 b.2.2.2.1.2.1 a.2.2.2.1.2.1 q.2).2, a.2.2.2.2.2.1, a.2.2.2.2.2.2)
theorem z_jn_ok {pr : Nat} {h0 : yQ × ev_H} {a b c : yo} (h : z_jn pr a b = some c) (s : Bool) {ρ : Nat → Int} {Lc : ev_L} {stc : List Value} {hc : ev_H} (hG : y_G h0 ρ (y_sl s a b).2.2.2.2.1 (y_sl s a b).2.1 (y_sl s a b).2.2.1 (y_sl s a b).2.2.2.1 Lc stc hc) :
    (c.1 = (y_sl s a b).1 ∧ c.2.2.2.2.2.1 = (y_sl s a b).2.2.2.2.2.1 ∧ c.2.2.2.2.2.2 = (y_sl s a b).2.2.2.2.2.2) ∧ ∃ ρ', pr ≤ c.2.2.2.2.1.length ∧ x_ext pr ρ ρ' ∧ y_G h0 ρ' c.2.2.2.2.1 c.2.1 c.2.2.1 c.2.2.2.1 Lc stc hc := by
  unfold z_jn at h
  split at h
  · cases h
  · rename_i hb
    simp only [Bool.and_eq_true] at hb
    obtain ⟨b1, b2, b3, b4⟩ := hb
    have b1 := Nat.eq_of_beq_eq_true b1
    have b2 := Nat.eq_of_beq_eq_true b2
    have b3 := Nat.eq_of_beq_eq_true b3
    have b4 := y_mq_ok b4
    split at h
    · cases h
    · rename_i e0 he0
      split at h
      · cases h
      · rename_i q hq
        cases h
        obtain ⟨hsat, hL, hst, hin, hun, hca, hvn⟩ := hG
        have hsat' : x_sat ρ (y_sl s a.2.2.2.2.1 b.2.2.2.2.1) := by cases s <;> exact hsat
        have hl0 : e0.length = pr := (z_hp_in he0).1
        have h00 : x_sat ρ e0 := z_hp_ok he0 s hsat'
        have hp0 : pr ≤ e0.length := by omega
        have hx0 : x_ext pr ρ ρ := x_ext.rf
        obtain ⟨ρ1, l1, l2, l3, l4⟩ := z_jL_ok s hsat' (l1 := a.2.1) (l2 := b.2.1) h00 hp0 hx0
        obtain ⟨ρ2, m1, m2, m3, m4, m5⟩ := z_jS_ok s hsat' hq l3 (Nat.le_trans hp0 l2) (hx0.tr hp0 l1)
        obtain ⟨ρ3, n1, n2, n3, n4⟩ := z_jC_ok (kb := b.2.2.2.1.2.1) s hsat' (ka := a.2.2.2.1.2.1) m3 (Nat.le_trans (Nat.le_trans hp0 l2) m2) ((hx0.tr hp0 l1).tr (Nat.le_trans hp0 l2) m1)
        refine ⟨by cases s with
          | true => exact ⟨rfl, rfl, rfl⟩
          | false => exact ⟨b1, b2, b3⟩, ρ3, Nat.le_trans (Nat.le_trans (Nat.le_trans hp0 l2) m2) n2, ((hx0.tr hp0 l1).tr (Nat.le_trans hp0 l2) m1).tr (Nat.le_trans (Nat.le_trans hp0 l2) m2) n1, n3, fun k v hk h4 => ?_, ⟨?_, fun v hv => (m4 v hv).up n2⟩, hin, ?_, fun e he => ?_, fun e he => by cases he⟩
        · obtain ⟨g1, w, g2, g3, g4⟩ := l4 k v hk h4
          have g2 : (y_sl s a b).2.1[k]? = some w := by cases s <;> exact g2
          obtain ⟨i1, i2⟩ := hL k w g2 (by rw [g3]; exact h4)
          refine ⟨(g1.up m2).up n2, ?_⟩
          rw [i2, x_in_ext n1 (g1.up m2), x_in_ext m1 g1, g4]
        · rw [x_map_ext n1 m4, m5, hst.1]
          cases s <;> rfl
        · cases s with
          | true => exact hun
          | false =>
            show y_un a.2.2.2.1.1 h0.2 hc
            rw [b4]
            exact hun
        · obtain ⟨g1, w, g2, g3, g4⟩ := n4 e he
          have g2 : (e.1, e.2.1, w) ∈ (y_sl s a b).2.2.2.1.2.1 := by cases s <;> exact g2
          obtain ⟨i1, i2, i3⟩ := hca _ g2
          exact ⟨by rw [← g3]; exact i1, g1, by rw [g4]; exact i3⟩
/-! the driver -/
def z_P (h0 : yQ × ev_H) (I : ev_I) (Q : Option Value → ev_H → Prop) (pr : Nat) (σ : Nat → Int) (o : yo) : Prop := ∀ (ρ : Nat → Int) (Lc : ev_L) (stc : List Value) (hc : ev_H), pr ≤ o.2.2.2.2.1.length → x_ext pr σ ρ → y_G h0 ρ o.2.2.2.2.1 o.2.1 o.2.2.1 o.2.2.2.1 Lc stc hc → match o.1 with
  | 0 => Q stc.head? hc
  | p + 1 => x_W none I p Lc stc hc o.2.2.2.2.2.1 o.2.2.2.2.2.2 Q
theorem z_P.O {h0 : yQ × ev_H} {I : ev_I} {Q : Option Value → ev_H → Prop} {pr : Nat} {σ : Nat → Int} {o : yo} (h : z_P h0 I Q pr σ o) {ρ : Nat → Int} {n : Nat} (hn : pr ≤ n) (hx : x_ext pr σ ρ) : y_O h0 none I Q ρ n o := fun ρ' Lc stc hc h1 h2 hG => h ρ' Lc stc hc (Nat.le_trans hn h2) (hx.tr hn h1) hG
theorem z_P_jn {h0 : yQ × ev_H} {I : ev_I} {Q : Option Value → ev_H → Prop} {pr : Nat} {σ : Nat → Int} {a b c : yo} (h : z_jn pr a b = some c) (hc : z_P h0 I Q pr σ c) (s : Bool) : z_P h0 I Q pr σ (y_sl s a b) := fun ρ Lc stc hc9 hl hx hG => by
  obtain ⟨⟨e1, e2, e3⟩, ρ', hl', hx', hG'⟩ := z_jn_ok h s hG
  have := hc ρ' Lc stc hc9 hl' (fun i hi => (hx' i hi).trans (hx i hi)) hG'
  rw [e1, e2, e3] at this
  exact this
noncomputable def z_ins (pr : Nat) (part : Option (Nat × Nat)) (o : yo) (pend : List yo) : Option (List yo) := List.rec (motive := fun _ => Option (List yo)) (some [o]) (fun p r ih => match Nat.beq p.1 o.1 && y_bq (y_tg part p) (y_tg part o) with
  | true => match z_jn pr p o with
    | some c => some (c :: r)
    | none => none
  | false => match ih with
    | some l => some (p :: l)
    | none => none) pend
theorem z_ins_ok {pr : Nat} {σ : Nat → Int} {h0 : yQ × ev_H} {I : ev_I} {Q : Option Value → ev_H → Prop} {part : Option (Nat × Nat)} {o : yo} : ∀ {pend res : List yo}, z_ins pr part o pend = some res → (∀ x ∈ res, z_P h0 I Q pr σ x) → z_P h0 I Q pr σ o ∧ ∀ x ∈ pend, z_P h0 I Q pr σ x := by
  intro pend
  induction pend with
  | nil =>
    intro res h hr
    cases h
    exact ⟨hr o (by simp), fun x hx => by cases hx⟩
  | cons p r ih =>
    intro res h hr
    have h : (match Nat.beq p.1 o.1 && y_bq (y_tg part p) (y_tg part o) with
      | true => match z_jn pr p o with
        | some c => some (c :: r)
        | none => none
      | false => match z_ins pr part o r with
        | some l => some (p :: l)
        | none => none) = some res := h
    cases hb : (Nat.beq p.1 o.1 && y_bq (y_tg part p) (y_tg part o)) with
    | true =>
      rw [hb] at h
      dsimp only at h
      cases hj : z_jn pr p o with
      | none => rw [hj] at h; cases h
      | some c =>
        rw [hj] at h
        cases h
        have hc := hr c (by simp)
        refine ⟨z_P_jn hj hc false, fun x hx => ?_⟩
        rcases List.mem_cons.mp hx with rfl | hx
        · exact z_P_jn hj hc true
        · exact hr x (by simp [hx])
    | false =>
      rw [hb] at h
      dsimp only at h
      cases hi : z_ins pr part o r with
      | none => rw [hi] at h; cases h
      | some l =>
        rw [hi] at h
        cases h
        obtain ⟨g1, g2⟩ := ih hi (fun x hx => hr x (by simp [hx]))
        refine ⟨g1, fun x hx => ?_⟩
        rcases List.mem_cons.mp hx with rfl | hx
        · exact hr x (by simp)
        · exact g2 x hx
noncomputable def z_prc (pr : Nat) (part : Option (Nat × Nat)) (post : yo → Bool) (pend : List yo) (outs : List yo) : Option (List yo) := List.rec (motive := fun _ => Option (List yo)) (some pend) (fun o _ ih => match ih with
  | none => none
  | some pd => match post o with
    | true => some pd
    | false => match o.1 with
      | 0 => none
      | _ + 1 => z_ins pr part o pd) outs
theorem z_prc_ok {pr : Nat} {σ : Nat → Int} {h0 : yQ × ev_H} {I : ev_I} {Q : Option Value → ev_H → Prop} {part : Option (Nat × Nat)} {post : yo → Bool} (hpost : ∀ o : yo, post o = true → z_P h0 I Q pr σ o) {pend : List yo} : ∀ {outs res : List yo}, z_prc pr part post pend outs = some res → (∀ x ∈ res, z_P h0 I Q pr σ x) → (∀ o ∈ outs, z_P h0 I Q pr σ o) ∧ ∀ x ∈ pend, z_P h0 I Q pr σ x := by
  intro outs
  induction outs with
  | nil =>
    intro res h hr
    cases h
    exact ⟨fun o ho => (by cases ho), hr⟩
  | cons o r ih =>
    intro res h hr
    have h : (match z_prc pr part post pend r with
      | none => none
      | some pd => match post o with
        | true => some pd
        | false => match o.1 with
          | 0 => none
          | _ + 1 => z_ins pr part o pd) = some res := h
    cases hp : z_prc pr part post pend r with
    | none => rw [hp] at h; cases h
    | some pd =>
      rw [hp] at h
      dsimp only at h
      split at h
      · rename_i hpo
        cases h
        obtain ⟨g1, g2⟩ := ih hp hr
        exact ⟨List.forall_mem_cons.mpr ⟨hpost o hpo, g1⟩, g2⟩
      · split at h
        · cases h
        · obtain ⟨g1, g2⟩ := z_ins_ok h hr
          obtain ⟨g3, g4⟩ := ih hp g2
          exact ⟨List.forall_mem_cons.mpr ⟨g1, g3⟩, g4⟩
noncomputable def z_drv (pr : Nat) (tb : List (Nat × yB)) (stops : Nat → Bool) (part : Option (Nat × Nat)) (post : yo → Bool) (prio : List Nat) (n2 : Nat) (fuel : Nat) : List yo → Bool := Nat.rec (motive := fun _ => List yo → Bool) (fun _ => false) (fun _ ih pend => match pend with
  | [] => true
  | _ :: _ => match y_sel pend prio with
    | none => false
    | some r => match r.1.1 with
      | 0 => false
      | p + 1 => match y_lb tb p (y_run stops tb n2) r.1.2.1 r.1.2.2.1 r.1.2.2.2.1 r.1.2.2.2.2.1 r.1.2.2.2.2.2.1 r.1.2.2.2.2.2.2 with
        | none => false
        | some outs => match z_prc pr part post r.2 outs with
          | none => false
          | some pd => ih pd) fuel
theorem z_drv_ok {pr : Nat} {σ : Nat → Int} {h0 : yQ × ev_H} {inl : Nat → Option (List xv → yH → xE → yR)} {cts : Nat → List yCt} {I : ev_I} {cut : Nat → Option Int} (hinl : ∀ a m, inl a = some m → y_Ma h0 a m) (hcts : ∀ a, ∀ ct ∈ cts a, y_Mca h0.1 a ct) {tb : List (Nat × yB)} (htb : y_T h0.1 none inl cts I cut tb) {Q : Option Value → ev_H → Prop} {part : Option (Nat × Nat)} {post : yo → Bool} (hpost : ∀ o : yo, post o = true → z_P h0 I Q pr σ o) {stops : Nat → Bool} {prio : List Nat} {n2 : Nat} : ∀ {fuel : Nat} {pend : List yo}, z_drv pr tb stops part post prio n2 fuel pend = true → ∀ x ∈ pend, z_P h0 I Q pr σ x := by
  intro fuel
  induction fuel with
  | zero => intro pend h; cases h
  | succ n ih =>
    intro pend h
    cases pend with
    | nil => intro x hx; cases hx
    | cons o0 r0 =>
      have h : (match y_sel (o0 :: r0) prio with
        | none => false
        | some r => match r.1.1 with
          | 0 => false
          | p + 1 => match y_lb tb p (y_run stops tb n2) r.1.2.1 r.1.2.2.1 r.1.2.2.2.1 r.1.2.2.2.2.1 r.1.2.2.2.2.2.1 r.1.2.2.2.2.2.2 with
            | none => false
            | some outs => match z_prc pr part post r.2 outs with
              | none => false
              | some pd => z_drv pr tb stops part post prio n2 n pd) = true := h
      cases hs : y_sel (o0 :: r0) prio with
      | none => rw [hs] at h; cases h
      | some r =>
        rw [hs] at h
        dsimp only at h
        split at h
        · cases h
        · rename_i p hp
          split at h
          · cases h
          · rename_i outs ho
            split at h
            · cases h
            · rename_i pd hpd
              obtain ⟨g1, g2⟩ := z_prc_ok hpost hpd (ih h)
              intro x hx
              rcases y_sel_ok hs x hx with rfl | hx
              · intro ρ Lc stc hc hl hx hG
                rw [hp]
                exact ys_lb hinl hcts (ys_run hinl hcts htb n2) htb p _ _ _ _ _ _ outs ho ρ none Lc stc hc (fun x hx => by cases hx) hG Q (fun o' ho' => (g1 o' ho').O hl hx)
              · exact g2 x hx
