/-! cells of the other heap -/
def y_hu (e f : Int × Int × Bool) : Int × Int × Bool := match x_le e.1 e.2.1 with
  | false => (f.1, f.2.1, e.2.2 || f.2.2)
  | true => match x_le f.1 f.2.1 with
    | false => (e.1, e.2.1, e.2.2 || f.2.2)
    | true => (x_mn e.1 f.1, x_mx e.2.1 f.2.1, e.2.2 || f.2.2)
theorem y_hu_l {e f : Int × Int × Bool} {z : Int} (h : x_s1 e z) : x_s1 (y_hu e f) z := by
  unfold y_hu
  rcases h with ⟨h1, h2⟩ | ⟨h1, h2⟩
  · rw [x_le_iff.mpr (Int.le_trans h1 h2)]
    dsimp only
    cases x_le f.1 f.2.1 with
    | false => exact Or.inl ⟨h1, h2⟩
    | true => exact Or.inl ⟨Int.le_trans (x_mn_l _ _) h1, Int.le_trans h2 (x_mx_l _ _)⟩
  · cases x_le e.1 e.2.1 with
    | false => exact Or.inr ⟨by show (e.2.2 || f.2.2) = true; rw [h1]; rfl, h2⟩
    | true => cases x_le f.1 f.2.1 with
      | false => exact Or.inr ⟨by show (e.2.2 || f.2.2) = true; rw [h1]; rfl, h2⟩
      | true => exact Or.inr ⟨by show (e.2.2 || f.2.2) = true; rw [h1]; rfl, h2⟩
theorem y_hu_r {e f : Int × Int × Bool} {z : Int} (h : x_s1 f z) : x_s1 (y_hu e f) z := by
  unfold y_hu
  rcases h with ⟨h1, h2⟩ | ⟨h1, h2⟩
  · cases x_le e.1 e.2.1 with
    | false => exact Or.inl ⟨h1, h2⟩
    | true =>
      dsimp only
      rw [x_le_iff.mpr (Int.le_trans h1 h2)]
      exact Or.inl ⟨Int.le_trans (x_mn_r _ _) h1, Int.le_trans h2 (x_mx_r _ _)⟩
  · cases x_le e.1 e.2.1 with
    | false => exact Or.inr ⟨by show (e.2.2 || f.2.2) = true; rw [h1, Bool.or_true], h2⟩
    | true => cases x_le f.1 f.2.1 with
      | false => exact Or.inr ⟨by show (e.2.2 || f.2.2) = true; rw [h1, Bool.or_true], h2⟩
      | true => exact Or.inr ⟨by show (e.2.2 || f.2.2) = true; rw [h1, Bool.or_true], h2⟩
/-- the range of places a to a + m of a row -/
noncomputable def y_hi (d : List (List yF)) (a m : Nat) : Option (Int × Int × Bool) := Nat.rec (motive := fun _ => Option (Int × Int × Bool)) (match x_g d a with
  | some f => some f.2
  | none => none) (fun k ih => match ih with
  | none => none
  | some e => match x_g d (a + (k + 1)) with
    | some f => some (y_hu e f.2)
    | none => none) m
theorem y_hi_ok {d : List (List yF)} {a : Nat} : ∀ {m : Nat} {e : Int × Int × Bool}, y_hi d a m = some e → ∀ i, a ≤ i → i ≤ a + m → ∃ f, x_g d i = some f ∧ ∀ z, x_s1 f.2 z → x_s1 e z := by
  intro m
  induction m with
  | zero =>
    intro e h i h1 h2
    have hi : i = a := by omega
    subst hi
    have h : (match x_g d i with
      | some f => some f.2
      | none => none) = some e := h
    cases hf : x_g d i with
    | none => rw [hf] at h; cases h
    | some f => rw [hf] at h; cases h; exact ⟨f, rfl, fun _ z => z⟩
  | succ k ih =>
    intro e h i h1 h2
    have h : (match y_hi d a k with
      | none => none
      | some e => match x_g d (a + (k + 1)) with
        | some f => some (y_hu e f.2)
        | none => none) = some e := h
    cases he : y_hi d a k with
    | none => rw [he] at h; cases h
    | some e0 =>
      rw [he] at h
      dsimp only at h
      cases hf : x_g d (a + (k + 1)) with
      | none => rw [hf] at h; cases h
      | some f =>
        rw [hf] at h
        cases h
        by_cases hi : i = a + (k + 1)
        · subst hi
          exact ⟨f, hf, fun _ z => y_hu_r z⟩
        · obtain ⟨f', g1, g2⟩ := ih he i h1 (by omega)
          exact ⟨f', g1, fun _ z => y_hu_l (g2 _ z)⟩
/-- an array cell of this type and length -/
noncomputable def y_ac (g : yQ) (t q : Nat) : Option (Nat × List (List yF)) := match x_g g q with
  | some c => match Nat.beq c.1 0 && Nat.beq c.2.1 t with
    | true => some (c.2.2.1, c.2.2.2)
    | false => none
  | none => none
theorem y_ac_ok {g : yQ} {t q n : Nat} {d : List (List yF)} (h : y_ac g t q = some (n, d)) {hc : ev_H} (hi : y_in g hc) : (∃ c, x_g g q = some c ∧ c = (0, t, n, d)) ∧ ∃ xs : List Int32, hc[q]? = some (.inl (t, xs)) ∧ xs.length = n ∧ ∀ i f z, x_g d i = some f → xs[i]? = some z → x_s1 f.2 z.toInt := by
  unfold y_ac at h
  split at h
  · rename_i c hc9
    split at h
    · rename_i hb
      cases h
      rw [Bool.and_eq_true] at hb
      obtain ⟨c1, c2, c3, c4⟩ := c
      have b1 : c1 = 0 := Nat.eq_of_beq_eq_true hb.1
      have b2 : c2 = t := Nat.eq_of_beq_eq_true hb.2
      subst b1
      subst b2
      obtain ⟨cc, h1, xs, h2, h3, h4⟩ := hi q _ hc9
      subst h2
      exact ⟨⟨_, hc9, rfl⟩, xs, h1, h3, h4⟩
    · cases h
  · cases h
/-- the range over cells lo to lo + m, places a to a + k (below n) -/
noncomputable def y_hq (g : yQ) (t lo a k : Nat) (m : Nat) : Option (Int × Int × Bool) := Nat.rec (motive := fun _ => Option (Int × Int × Bool)) (match y_ac g t lo with
  | some p => match Nat.ble (a + k + 1) p.1 with
    | true => y_hi p.2 a k
    | false => none
  | none => none) (fun j ih => match ih with
  | none => none
  | some e => match y_ac g t (lo + (j + 1)) with
    | some p => match Nat.ble (a + k + 1) p.1 with
      | true => match y_hi p.2 a k with
        | some e' => some (y_hu e e')
        | none => none
      | false => none
    | none => none) m
theorem y_hq_ok {g : yQ} {t lo a k : Nat} {hc : ev_H} (hi : y_in g hc) : ∀ {m : Nat} {e : Int × Int × Bool}, y_hq g t lo a k m = some e → ∀ q i, lo ≤ q → q ≤ lo + m → a ≤ i → i ≤ a + k → ∃ (xs : List Int32) (z : Int32), hc[q]? = some (.inl (t, xs)) ∧ xs[i]? = some z ∧ x_s1 e z.toInt := by
  have base : ∀ {q : Nat} {p : Nat × List (List yF)} {e : Int × Int × Bool}, y_ac g t q = some p → Nat.ble (a + k + 1) p.1 = true → y_hi p.2 a k = some e → ∀ i, a ≤ i → i ≤ a + k → ∃ (xs : List Int32) (z : Int32), hc[q]? = some (.inl (t, xs)) ∧ xs[i]? = some z ∧ x_s1 e z.toInt := by
    intro q p e h1 h2 h3 i i1 i2
    obtain ⟨n, d⟩ := p
    obtain ⟨-, xs, g1, g2, g3⟩ := y_ac_ok h1 hi
    have h2 : a + k + 1 ≤ n := Nat.le_of_ble_eq_true h2
    have hl : i < xs.length := by omega
    obtain ⟨f, f1, f2⟩ := y_hi_ok h3 i i1 i2
    exact ⟨xs, xs[i], g1, List.getElem?_eq_getElem hl, f2 _ (g3 i f _ f1 (List.getElem?_eq_getElem hl))⟩
  intro m
  induction m with
  | zero =>
    intro e h q i q1 q2 i1 i2
    have hq : q = lo := by omega
    subst hq
    have h : (match y_ac g t q with
      | some p => match Nat.ble (a + k + 1) p.1 with
        | true => y_hi p.2 a k
        | false => none
      | none => none) = some e := h
    cases hp : y_ac g t q with
    | none => rw [hp] at h; cases h
    | some p =>
      rw [hp] at h
      dsimp only at h
      cases hb : Nat.ble (a + k + 1) p.1 with
      | false => rw [hb] at h; cases h
      | true => rw [hb] at h; exact base hp hb h i i1 i2
  | succ j ih =>
    intro e h q i q1 q2 i1 i2
    have h : (match y_hq g t lo a k j with
      | none => none
      | some e => match y_ac g t (lo + (j + 1)) with
        | some p => match Nat.ble (a + k + 1) p.1 with
          | true => match y_hi p.2 a k with
            | some e' => some (y_hu e e')
            | none => none
          | false => none
        | none => none) = some e := h
    cases he : y_hq g t lo a k j with
    | none => rw [he] at h; cases h
    | some e0 =>
      rw [he] at h
      dsimp only at h
      cases hp : y_ac g t (lo + (j + 1)) with
      | none => rw [hp] at h; cases h
      | some p =>
        rw [hp] at h
        dsimp only at h
        cases hb : Nat.ble (a + k + 1) p.1 with
        | false => rw [hb] at h; cases h
        | true =>
          rw [hb] at h
          dsimp only at h
          cases hh : y_hi p.2 a k with
          | none => rw [hh] at h; cases h
          | some e' =>
            rw [hh] at h
            cases h
            by_cases hq : q = lo + (j + 1)
            · subst hq
              obtain ⟨xs, z, g1, g2, g3⟩ := base hp hb hh i i1 i2
              exact ⟨xs, z, g1, g2, y_hu_r g3⟩
            · obtain ⟨xs, z, g1, g2, g3⟩ := ih he q i q1 (by omega) i1 i2
              exact ⟨xs, z, g1, g2, y_hu_l g3⟩
/-- within what its kind can be -/
noncomputable def y_rg (env : xE) (w : xv) : Bool := match w.1 with
  | 0 => x_wi (-2147483648) 2147483647 env w
  | 1 => x_wi (-9223372036854775808) 9223372036854775807 env w
  | _ => false
theorem y_rf_ok {f : yF} {env : xE} {w : xv} {ρ : Nat → Int} (hsat : x_sat ρ env) (h1 : f.1 = w.1) (h2 : y_wi f.2 env w = true) (h3 : y_rg env w = true) : y_rF f (x_in ρ w) := by
  have hs := y_wi_ok hsat h2
  unfold y_rg at h3
  unfold y_rF
  rw [h1]
  split at h3
  · rename_i hk
    obtain ⟨w1, w2⟩ := x_wi_ok hsat h3
    rw [hk, x_in0 hk]
    exact ⟨_, rfl, by rw [x_i32 w1 w2]; exact hs⟩
  · rename_i hk
    obtain ⟨w1, w2⟩ := x_wi_ok hsat h3
    rw [hk, x_in1 hk]
    exact ⟨_, rfl, by rw [x_i64 w1 w2]; exact hs⟩
  · cases h3
section YHE
variable {h0 : yQ × ev_H} {scx : yX} {rt ini mx na rc fr lo mc ms : Nat} {t : ev_T} {pc pp0 a b pp : Nat} {i : Instr} {v : Value} {next : yK}
theorem y_S_h (hf : ev_f t pc = some (pp0, i, a, b, pp, v)) (hn : y_S h0 scx (rt, ini, mx, na, rc, fr, lo, mc, ms, t) (pc + ev_len i) next) {K : yK} (hK : ∀ L st h env kc ks outs, K L st h env kc ks = some outs → ∀ ρ sc stc hc, y_rX env.length ρ scx sc → x_sat ρ env → x_rS env.length ρ st stc → y_rH h0 env.length ρ h hc →
    ∃ (ρ' : Nat → Int) (st' : List xv) (h' : yH) (env' : xE) (stc' : List Value) (hc' : ev_H) (outs' : List yo), x_ext env.length ρ ρ' ∧ env.length ≤ env'.length ∧ x_sat ρ' env' ∧ x_rS env'.length ρ' st' stc' ∧ y_rH h0 env'.length ρ' h' hc' ∧ ev_h sc i ini a b stc hc = some (stc', hc') ∧ next L st' h' env' kc ks = some outs' ∧ ∀ o ∈ outs', o ∈ outs) : y_S h0 scx (rt, ini, mx, na, rc, fr, lo, mc, ms, t) pc K := by
  refine y_S_of fun L st h env kc ks outs hk ρ sc Lc stc hc hX hG => ?_
  obtain ⟨ρ', st', h', env', stc', hc', outs', g1, g2, g3, g4, g5, g6, g7, g8⟩ := hK L st h env kc ks outs hk ρ sc stc hc hX hG.1 hG.2.2.1 hG.2.2.2
  exact ⟨next, _, ρ', L, st', h', env', kc, ks, Lc, stc', hc', outs', hn, g1, g2, ⟨g3, hG.2.1.up g1 g2, g4, g5⟩, g7, g8, fun Q hQ => x_W_h hf g6 hQ⟩
/-- an object's cell and a field of it -/
noncomputable def y_fl (g : yQ) (a b : Nat) (v : xv) : Option yF := match Nat.beq v.1 2 && Nat.beq v.2.1 0 with
  | true => match x_g g v.2.2.toNat with
    | some c => match Nat.beq c.1 2 && Nat.beq c.2.1 a with
      | true => x_g c.2.2.2 b
      | false => none
    | none => none
  | false => none
theorem y_fl_ok {g : yQ} {a b : Nat} {v : xv} {f : yF} (h : y_fl g a b v = some f) {hc : ev_H} (hi : y_in g hc) (ρ : Nat → Int) : x_in ρ v = .ref v.2.2.toNat ∧ ∃ (fs : List Value) (w : Value) (c : yC), x_g g v.2.2.toNat = some c ∧ c.1 = 2 ∧ c.2.1 = a ∧ x_g c.2.2.2 b = some f ∧ hc[v.2.2.toNat]? = some (.inr (.inr (a, fs))) ∧ fs[b]? = some w ∧ y_rF f w ∧ ∀ i f', x_g c.2.2.2 i = some f' → ∃ v', fs[i]? = some v' ∧ y_rF f' v' := by
  unfold y_fl at h
  split at h
  · rename_i hb
    rw [Bool.and_eq_true] at hb
    split at h
    · rename_i c hc9
      split at h
      · rename_i hb2
        rw [Bool.and_eq_true] at hb2
        obtain ⟨cc, g1, g2⟩ := hi _ c hc9
        obtain ⟨c1, c2, c3, c4⟩ := c
        have b1 : c1 = 2 := Nat.eq_of_beq_eq_true hb2.1
        have b2 : c2 = a := Nat.eq_of_beq_eq_true hb2.2
        subst b1
        subst b2
        obtain ⟨fs, e1, e2⟩ := g2
        subst e1
        obtain ⟨w, f1, f2⟩ := e2 b f h
        refine ⟨?_, fs, w, _, hc9, rfl, rfl, h, g1, f1, f2, e2⟩
        rw [x_in2 (Nat.eq_of_beq_eq_true hb.1), x_vl0 (Nat.eq_of_beq_eq_true hb.2)]
      · cases h
    · cases h
  · cases h
noncomputable def yo_gf (g : yQ) (a b : Nat) (next : yK) : yK := fun L st h env kc ks => match st with
  | v :: r => match y_fl g a b v with
    | some f => match f.1 with
      | 0 => match y_lk v.2.2.toNat b h.2.1 with
        | some w => next L (x_kv env w :: r) h env kc ks
        | none => next L ((x_nw 0 f.2 env).1 :: r) (h.1, (v.2.2.toNat, b, (x_nw 0 f.2 env).1) :: h.2.1, h.2.2) (x_nw 0 f.2 env).2 kc ks
      | 1 => match y_lk v.2.2.toNat b h.2.1 with
        | some w => next L (x_kv env w :: r) h env kc ks
        | none => next L ((x_nw 1 f.2 env).1 :: r) (h.1, (v.2.2.toNat, b, (x_nw 1 f.2 env).1) :: h.2.1, h.2.2) (x_nw 1 f.2 env).2 kc ks
      | _ => next L ((2, 0, f.2.1) :: r) h env kc ks
    | none => none
  | [] => none
theorem y_get_o {hc : ev_H} {q a b : Nat} {fs : List Value} (h : hc[q]? = some (.inr (.inr (a, fs)))) : y_get hc q b = fs[b]? := by
  unfold y_get
  rw [h]
theorem y_get_a {hc : ev_H} {q t b : Nat} {xs : List Int32} (h : hc[q]? = some (.inl (t, xs))) : y_get hc q b = (xs[b]?).map (fun z => .int z) := by
  unfold y_get
  rw [h]
theorem ys_gf {idx : Nat} (hf : ev_f t pc = some (pp0, .getfield idx, a, b, pp, v)) (hn : y_S h0 scx (rt, ini, mx, na, rc, fr, lo, mc, ms, t) (pc + 3) next) : y_S h0 scx (rt, ini, mx, na, rc, fr, lo, mc, ms, t) pc (yo_gf h0.1 a b next) :=
  y_S_h hf hn fun L st h env kc ks outs hk ρ sc stc hc hX hsat hst hh => by
    unfold yo_gf at hk
    split at hk
    · rename_i x r
      split at hk
      · rename_i f hfl
        obtain ⟨hin, hun, hca, hvn⟩ := hh
        obtain ⟨e1, fs, w0, c, c1, c2, c3, c4, e2, e3, e4, e5⟩ := y_fl_ok hfl hin ρ
        have hr : ∀ z ∈ r, x_ok env.length z := fun z hz => hst.2 z (by simp [hz])
        have hev : ev_h sc (.getfield idx) ini a b stc hc = some (w0 :: r.map (x_in ρ), hc) := by
          rw [hst.1, List.map_cons, e1]
          show (match hc[x.2.2.toNat]? with
            | some (.inr (.inr o)) => match Nat.beq o.1 a with
              | true => match o.2[b]? with
                | some v => some (v :: r.map (x_in ρ), hc)
                | none => none
              | false => none
            | _ => none) = _
          rw [e2]
          dsimp only
          rw [Nat.beq_refl]
          dsimp only
          rw [e3]
        have hcached : ∀ w, y_lk x.2.2.toNat b h.2.1 = some w → x_in ρ w = w0 ∧ x_ok env.length w := by
          intro w hw
          obtain ⟨k1, k2, k3⟩ := hca _ (y_lk_ok hw)
          have k3 : y_get hc x.2.2.toNat b = some (x_in ρ w) := k3
          rw [y_get_o e2, e3] at k3
          exact ⟨(Option.some.inj k3).symm, k2⟩
        have fin1 : ∀ w, y_lk x.2.2.toNat b h.2.1 = some w → next L (x_kv env w :: r) h env kc ks = some outs → ∃ (ρ' : Nat → Int) (st' : List xv) (h' : yH) (env' : xE) (stc' : List Value) (hc' : ev_H) (outs' : List yo), x_ext env.length ρ ρ' ∧ env.length ≤ env'.length ∧ x_sat ρ' env' ∧ x_rS env'.length ρ' st' stc' ∧ y_rH h0 env'.length ρ' h' hc' ∧ ev_h sc (.getfield idx) ini a b stc hc = some (stc', hc') ∧ next L st' h' env' kc ks = some outs' ∧ ∀ o ∈ outs', o ∈ outs := by
          intro w hw hk
          obtain ⟨k1, k2⟩ := hcached w hw
          obtain ⟨-, v2, -, v4⟩ := x_kv_ok (v := w) hsat
          exact ⟨ρ, x_kv env w :: r, h, env, w0 :: r.map (x_in ρ), hc, outs, x_ext.rf, Nat.le_refl _, hsat, ⟨by rw [List.map_cons, v2, k1], List.forall_mem_cons.mpr ⟨v4 _ k2, hr⟩⟩, ⟨hin, hun, hca, hvn⟩, hev, hk, fun _ z => z⟩
        have fin2 : ∀ (p : xv × xE) (ρ' : Nat → Int), x_ext env.length ρ ρ' → env.length ≤ p.2.length → x_sat ρ' p.2 → x_ok p.2.length p.1 → x_in ρ' p.1 = w0 → p.1.1 < 2 → next L (p.1 :: r) (h.1, (x.2.2.toNat, b, p.1) :: h.2.1, h.2.2) p.2 kc ks = some outs → ∃ (ρ' : Nat → Int) (st' : List xv) (h' : yH) (env' : xE) (stc' : List Value) (hc' : ev_H) (outs' : List yo), x_ext env.length ρ ρ' ∧ env.length ≤ env'.length ∧ x_sat ρ' env' ∧ x_rS env'.length ρ' st' stc' ∧ y_rH h0 env'.length ρ' h' hc' ∧ ev_h sc (.getfield idx) ini a b stc hc = some (stc', hc') ∧ next L st' h' env' kc ks = some outs' ∧ ∀ o ∈ outs', o ∈ outs := by
          intro p ρ' g1 g2 g3 g4 g5 g6 hk
          refine ⟨ρ', p.1 :: r, (h.1, (x.2.2.toNat, b, p.1) :: h.2.1, h.2.2), p.2, w0 :: r.map (x_in ρ), hc, outs, g1, g2, g3, ⟨by rw [List.map_cons, g5, x_map_ext g1 hr], List.forall_mem_cons.mpr ⟨g4, fun z hz => (hr z hz).up g2⟩⟩, ⟨hin, hun, ?_, hvn.up g1 g2⟩, hev, hk, fun _ z => z⟩
          intro e he
          rcases List.mem_cons.mp he with rfl | he
          · exact ⟨g6, g4, by rw [g5, ← e3]; exact y_get_o e2⟩
          · exact (hca.up g1 g2) e he
        split at hk
        · rename_i hk0
          split at hk
          · rename_i w hw
            exact fin1 w hw hk
          · obtain ⟨z, z1, z2⟩ : ∃ z : Int32, w0 = .int z ∧ x_s1 f.2 z.toInt := by
              unfold y_rF at e4
              rw [hk0] at e4
              exact e4
            obtain ⟨ρ', g1, g2, g3, g4, g5⟩ := x_nwi hsat z2
            exact fin2 (x_nw 0 f.2 env) ρ' g1 g2 g3 g4 (by rw [g5, z1]) (by show 0 < 2; decide) hk
        · rename_i hk1
          split at hk
          · rename_i w hw
            exact fin1 w hw hk
          · obtain ⟨z, z1, z2⟩ : ∃ z : Int64, w0 = .long z ∧ x_s1 f.2 z.toInt := by
              unfold y_rF at e4
              rw [hk1] at e4
              exact e4
            obtain ⟨ρ', g1, g2, g3, g4, g5⟩ := x_nwl hsat z2
            exact fin2 (x_nw 1 f.2 env) ρ' g1 g2 g3 g4 (by rw [g5, z1]) (by show 1 < 2; decide) hk
        · rename_i n0 n1
          have hw0 : w0 = .ref f.2.1.toNat := by
            unfold y_rF at e4
            split at e4
            · rename_i hz; exact absurd hz n0
            · rename_i hz; exact absurd hz n1
            · exact e4
          exact ⟨ρ, (2, 0, f.2.1) :: r, h, env, w0 :: r.map (x_in ρ), hc, outs, x_ext.rf, Nat.le_refl _, hsat, ⟨by rw [List.map_cons, x_in2 rfl, hw0]; rfl, List.forall_mem_cons.mpr ⟨Nat.zero_le _, hr⟩⟩, ⟨hin, hun, hca, hvn⟩, hev, hk, fun _ z => z⟩
      · cases hk
    · cases hk
noncomputable def yo_pf (g : yQ) (a b code : Nat) (next : yK) : yK := fun L st h env kc ks => match st with
  | w :: st' => match st' with
    | v :: r => match y_fl g a b v with
      | some f => match Nat.beq f.1 w.1 && (Nat.ble w.1 1 && (x_pk code env w && (y_wi f.2 env w && (y_md v.2.2.toNat b b h.1 && y_rg env w)))) with
        | true => next L r (h.1, (v.2.2.toNat, b, w) :: y_dr v.2.2.toNat v.2.2.toNat b b h.2.1, h.2.2) env kc ks
        | false => none
      | none => none
    | [] => none
  | [] => none
theorem ys_pf {idx code : Nat} (hf : ev_f t pc = some (pp0, .putfield idx, a, b, pp, v)) (hcode : x_pc a b ini = some code) (hn : y_S h0 scx (rt, ini, mx, na, rc, fr, lo, mc, ms, t) (pc + 3) next) : y_S h0 scx (rt, ini, mx, na, rc, fr, lo, mc, ms, t) pc (yo_pf h0.1 a b code next) :=
  y_S_h hf hn fun L st h env kc ks outs hk ρ sc stc hc hX hsat hst hh => by
    unfold yo_pf at hk
    split at hk
    · rename_i w st'
      split at hk
      · rename_i x r
        split at hk
        · rename_i f hfl
          split at hk
          · rename_i hq
            simp only [Bool.and_eq_true] at hq
            obtain ⟨q1, q2, q3, q4, q5, q6⟩ := hq
            obtain ⟨hin, hun, hca, hvn⟩ := hh
            obtain ⟨e1, fs, w0, c, c1, c2, c3, c4, e2, e3, e4, e5⟩ := y_fl_ok hfl hin ρ
            have hbl := (List.getElem?_eq_some_iff.mp e3).1
            have hql := (List.getElem?_eq_some_iff.mp e2).1
            obtain ⟨c9, ty, t1, t2, t3, t4, t5⟩ := x_pc_ok hcode hsat q3
            have hw : x_ok env.length w := hst.2 w (by simp)
            have q2 : w.1 ≤ 1 := Nat.le_of_ble_eq_true q2
            have q1 : f.1 = w.1 := Nat.eq_of_beq_eq_true q1
            have hrf : y_rF f (x_in ρ w) := y_rf_ok hsat q1 q4 q6
            have hg := y_get_setO (w := x_in ρ w) e2 hbl
            refine ⟨ρ, r, (h.1, (x.2.2.toNat, b, w) :: y_dr x.2.2.toNat x.2.2.toNat b b h.2.1, h.2.2), env, r.map (x_in ρ), hc.set x.2.2.toNat (.inr (.inr (a, fs.set b (x_in ρ w)))), outs, x_ext.rf, Nat.le_refl _, hsat, ⟨rfl, fun z hz => hst.2 z (by simp [hz])⟩, ⟨y_in_set hin (fun c' hc' => ?_) hql, fun q' i' hnc => ?_, fun e he => ?_, hvn⟩, ?_, hk, fun _ z => z⟩
            · rw [c1] at hc'
              cases hc'
              obtain ⟨k1, k2, k3, k4⟩ := c
              have c2 : k1 = 2 := c2
              have c3 : k2 = a := c3
              subst c2
              subst c3
              refine ⟨fs.set b (x_in ρ w), rfl, fun j f' hj => ?_⟩
              by_cases hjb : b = j
              · subst hjb
                have c4 : x_g k4 b = some f := c4
                have hj : x_g k4 b = some f' := hj
                rw [c4] at hj
                cases hj
                exact ⟨x_in ρ w, by rw [List.getElem?_set, if_pos rfl, if_pos hbl], hrf⟩
              · obtain ⟨v', v1, v2⟩ := e5 j f' hj
                exact ⟨v', by rw [List.getElem?_set, if_neg hjb]; exact v1, v2⟩
            · rw [hg]
              rw [if_neg]
              · exact hun q' i' hnc
              · rintro ⟨rfl, rfl⟩
                exact hnc (y_md_ok q5 _ (Nat.le_refl _) (Nat.le_refl _))
            · rcases List.mem_cons.mp he with rfl | he
              · exact ⟨by show w.1 < 2; omega, hw, by rw [hg, if_pos ⟨rfl, rfl⟩]⟩
              · obtain ⟨m1, m2⟩ := y_dr_ok he
                obtain ⟨k1, k2, k3⟩ := hca e m1
                refine ⟨k1, k2, ?_⟩
                rw [hg, if_neg]
                · exact k3
                · rintro ⟨z1, z2⟩
                  exact m2 (by rw [z1, z2]; exact ⟨Nat.le_refl _, Nat.le_refl _, Nat.le_refl _, Nat.le_refl _⟩)
            · rw [hst.1, List.map_cons, List.map_cons, e1]
              show (match hc[x.2.2.toNat]? with
                | some (.inr (.inr o)) => match Nat.beq o.1 a with
                  | true => if b < o.2.length then match vwCl[a]?, ev_tys[a]? with
                      | some c, some ty => if b < c.2.2 ∧ ((c.2.1 b).2.2.2 = false ∨ ini = a + 1) ∧ ev_pok (ty b) (x_in ρ w) = true then some (r.map (x_in ρ), hc.set x.2.2.toNat (.inr (.inr (a, o.2.set b (x_in ρ w))))) else none
                      | _, _ => none
                    else none
                  | false => none
                | _ => none) = _
              rw [e2]
              dsimp only
              rw [Nat.beq_refl]
              dsimp only
              rw [if_pos hbl, t1, t2]
              dsimp only
              rw [if_pos ⟨t3, t4, t5⟩]
          · cases hk
        · cases hk
      · cases hk
    · cases hk
end YHE
