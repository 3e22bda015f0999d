/-! arrays of the other heap -/
noncomputable def y_bn (env : xE) (v : xv) : Option (Nat × Nat) := match x_bd env v with
  | some p => match x_le 0 p.1 && x_le p.2 100000 with
    | true => some (p.1.toNat, p.2.toNat)
    | false => none
  | none => none
theorem y_bn_ok {env : xE} {v : xv} {a b : Nat} (h : y_bn env v = some (a, b)) {ρ : Nat → Int} (hsat : x_sat ρ env) : ∃ k : Nat, x_vl ρ v = (k : Int) ∧ a ≤ k ∧ k ≤ b ∧ k ≤ 100000 := by
  unfold y_bn at h
  split at h
  · rename_i p hp
    split at h
    · rename_i hb
      cases h
      rw [Bool.and_eq_true] at hb
      have h1 := x_le_iff.mp hb.1
      have h2 := x_le_iff.mp hb.2
      obtain ⟨l, u⟩ := p
      have h3 := x_bd_ok hsat hp
      exact ⟨(x_vl ρ v).toNat, by omega, by dsimp only; omega, by dsimp only; omega, by dsimp only at h2; omega⟩
    · cases h
  · cases h
theorem y_ixn {k : Nat} (h : k ≤ 2147483647) : (Int32.ofInt (k : Int)).toNatClampNeg = k ∧ ¬ Int32.ofInt (k : Int) < 0 := by
  have e := x_i32 (a := (k : Int)) (by omega) (by omega)
  refine ⟨by show (Int32.ofInt (k : Int)).toInt.toNat = _; rw [e]; omega, fun z => ?_⟩
  have z := Int32.lt_iff_toInt_lt.mp z
  rw [e] at z
  have e0 : (0 : Int32).toInt = 0 := by decide
  omega
section YAR
variable {h0 : yQ × ev_H} {scx : yX} {rt ini mx na rc fr lo mc ms : Nat} {t : ev_T} {pc pp0 a b pp : Nat} {i : Instr} {v : Value} {next : yK}
noncomputable def yo_al (g : yQ) (scx : yX) (t : Nat) (next : yK) : yK := fun L st h env kc ks => match st with
  | i :: st' => match st' with
    | v :: r => match Nat.beq v.1 3 with
      | true => match scx with
        | some x => match Nat.beq i.1 0 && (Nat.beq i.2.1 (x.1 + 1) && (x_le 0 i.2.2 && (x_le i.2.2 100000 && Nat.beq t 0))) with
          | true => match x_n x.2 i.2.2.toNat with
            | some w => next L (x_kv env w :: r) h env kc ks
            | none => none
          | false => none
        | none => none
      | false => match Nat.beq v.1 2 && Nat.beq i.1 0 with
        | true => match y_bn env v with
          | some q => match y_bn env i with
            | some k => match Nat.beq q.1 q.2 && Nat.beq k.1 k.2 with
              | true => match y_hq g t q.1 k.1 0 0 with
                | some e => match y_lk q.1 k.1 h.2.1 with
                  | some w => next L (x_kv env w :: r) h env kc ks
                  | none => next L ((x_nw 0 e env).1 :: r) (h.1, (q.1, k.1, (x_nw 0 e env).1) :: h.2.1, h.2.2) (x_nw 0 e env).2 kc ks
                | none => none
              | false => match y_hq g t q.1 k.1 (k.2 - k.1) (q.2 - q.1) with
                | some e => next L ((x_nw 0 e env).1 :: r) h (x_nw 0 e env).2 kc ks
                | none => none
            | none => none
          | none => none
        | false => none
    | [] => none
  | [] => none
theorem ys_al {t0 : Nat} (hf : ev_f t pc = some (pp0, i, a, b, pp, v)) (ht : x_aldi t0 = some i) (hlen : ev_len i = 1) (hn : y_S h0 scx (rt, ini, mx, na, rc, fr, lo, mc, ms, t) (pc + 1) next) : y_S h0 scx (rt, ini, mx, na, rc, fr, lo, mc, ms, t) pc (yo_al h0.1 scx t0 next) :=
  y_S_h hf (by rw [hlen]; exact hn) fun L st h env kc ks outs hk ρ sc stc hc hX hsat hst hh => by
    unfold yo_al at hk
    split at hk
    · rename_i ix st'
      split at hk
      · rename_i x r
        have hr : ∀ z ∈ r, x_ok env.length z := fun z hz => hst.2 z (by simp [hz])
        split at hk
        · rename_i h3
          split at hk
          · rename_i xx
            split at hk
            · rename_i hb
              simp only [Bool.and_eq_true] at hb
              obtain ⟨b1, b2, b3, b4, b5⟩ := hb
              have b1 := Nat.eq_of_beq_eq_true b1
              have b2 := Nat.eq_of_beq_eq_true b2
              have b3 := x_le_iff.mp b3
              have b4 := x_le_iff.mp b4
              have b5 := Nat.eq_of_beq_eq_true b5
              subst b5
              cases ht
              split at hk
              · rename_i w hw
                rw [x_n_eq] at hw
                obtain ⟨m1, m2, m3, xs, m4, m5⟩ := hX xx rfl
                obtain ⟨g1, g2, g3⟩ := m5 _ w hw
                obtain ⟨-, v2, -, v4⟩ := x_kv_ok (v := w) hsat
                have hvl : x_vl ρ ix = (((ρ xx.1).toNat + ix.2.2.toNat : Nat) : Int) := by
                  obtain ⟨ki, si, oi⟩ := ix
                  have b2 : si = xx.1 + 1 := b2
                  subst b2
                  show ρ xx.1 + oi = _
                  have b3 : 0 ≤ oi := b3
                  show ρ xx.1 + oi = (((ρ xx.1).toNat + oi.toNat : Nat) : Int)
                  omega
                obtain ⟨j2, j3⟩ := y_ixn (k := (ρ xx.1).toNat + ix.2.2.toNat) (by omega)
                refine ⟨ρ, x_kv env w :: r, h, env, x_in ρ w :: r.map (x_in ρ), hc, outs, x_ext.rf, Nat.le_refl _, hsat, ⟨by rw [List.map_cons, v2], List.forall_mem_cons.mpr ⟨v4 _ g2, hr⟩⟩, hh, ?_, hk, fun _ z => z⟩
                rw [hst.1, List.map_cons, List.map_cons, x_in0 b1, hvl, x_in3 (Nat.eq_of_beq_eq_true h3), m4, x_in0 g1]
                show (match ev_inn (Int32.ofInt (((ρ xx.1).toNat + ix.2.2.toNat : Nat) : Int)) xs.length with
                  | true => some (Value.int (xs.getD (Int32.ofInt (((ρ xx.1).toNat + ix.2.2.toNat : Nat) : Int)).toNatClampNeg 0) :: r.map (x_in ρ), hc)
                  | false => none) = _
                rw [x_inn j2 j3 (List.getElem?_eq_some_iff.mp g3).1, j2, List.getD_eq_getElem?_getD, g3]
                rfl
              · cases hk
            · cases hk
          · cases hk
        · split at hk
          · rename_i hb
            rw [Bool.and_eq_true] at hb
            have b1 := Nat.eq_of_beq_eq_true hb.1
            have b2 := Nat.eq_of_beq_eq_true hb.2
            split at hk
            · rename_i q hq
              split at hk
              · rename_i k hkk
                obtain ⟨ql, qu⟩ := q
                obtain ⟨kl, ku⟩ := k
                obtain ⟨q0, q1, q2, q3, q4⟩ := y_bn_ok hq hsat
                obtain ⟨k0, k1, k2, k3, k4⟩ := y_bn_ok hkk hsat
                obtain ⟨hin, hun, hca, hvn⟩ := hh
                obtain ⟨j2, j3⟩ := y_ixn (k := k0) (by omega)
                have hstc : ∀ (z : Int32) (xs : List Int32), hc[q0]? = some (.inl (t0, xs)) → xs[k0]? = some z → ev_h sc i ini a b stc hc = some (.int z :: r.map (x_in ρ), hc) := by
                  intro z xs g1 g2
                  rw [hst.1, List.map_cons, List.map_cons, x_in0 b2, x_in2 b1, q1, k1, Int.toNat_natCast]
                  exact x_ald_c ht j2 j3 g1 g2
                have fresh : ∀ (e : Int × Int × Bool) (z : Int32) (xs : List Int32), hc[q0]? = some (.inl (t0, xs)) → xs[k0]? = some z → x_s1 e z.toInt → ∀ (ka : yKa), (∀ ρ', x_ext env.length ρ ρ' → x_in ρ' (x_nw 0 e env).1 = .int z → x_ok (x_nw 0 e env).2.length (x_nw 0 e env).1 → env.length ≤ (x_nw 0 e env).2.length → y_ca (x_nw 0 e env).2.length ρ' ka hc) → next L ((x_nw 0 e env).1 :: r) (h.1, ka, h.2.2) (x_nw 0 e env).2 kc ks = some outs → ∃ (ρ' : Nat → Int) (st' : List xv) (h' : yH) (env' : xE) (stc' : List Value) (hc' : ev_H) (outs' : List yo), x_ext env.length ρ ρ' ∧ env.length ≤ env'.length ∧ x_sat ρ' env' ∧ x_rS env'.length ρ' st' stc' ∧ y_rH h0 env'.length ρ' h' hc' ∧ ev_h sc i ini a b stc hc = some (stc', hc') ∧ next L st' h' env' kc ks = some outs' ∧ ∀ o ∈ outs', o ∈ outs := by
                  intro e z xs g1 g2 g3 ka hka hk
                  obtain ⟨ρ', r1, r2, r3, r4, r5⟩ := x_nwi hsat g3
                  exact ⟨ρ', (x_nw 0 e env).1 :: r, (h.1, ka, h.2.2), (x_nw 0 e env).2, .int z :: r.map (x_in ρ), hc, outs, r1, r2, r3, ⟨by rw [List.map_cons, r5, x_map_ext r1 hr], List.forall_mem_cons.mpr ⟨r4, fun z hz => (hr z hz).up r2⟩⟩, ⟨hin, hun, hka ρ' r1 r5 r4 r2, hvn.up r1 r2⟩, hstc z xs g1 g2, hk, fun _ z => z⟩
                split at hk
                · rename_i hs
                  rw [Bool.and_eq_true] at hs
                  have s1 : ql = qu := Nat.eq_of_beq_eq_true hs.1
                  have s2 : kl = ku := Nat.eq_of_beq_eq_true hs.2
                  have eq0 : q0 = ql := by omega
                  have ek0 : k0 = kl := by omega
                  subst eq0
                  subst ek0
                  split at hk
                  · rename_i e he
                    obtain ⟨xs, z, g1, g2, g3⟩ := y_hq_ok hin he q0 k0 (Nat.le_refl _) (by omega) (Nat.le_refl _) (by omega)
                    split at hk
                    · rename_i w hw
                      obtain ⟨c1, c2, c3⟩ := hca _ (y_lk_ok hw)
                      have c3 : y_get hc q0 k0 = some (x_in ρ w) := c3
                      rw [y_get_a g1, g2] at c3
                      have c3 : x_in ρ w = .int z := (Option.some.inj c3).symm
                      obtain ⟨-, v2, -, v4⟩ := x_kv_ok (v := w) hsat
                      exact ⟨ρ, x_kv env w :: r, h, env, .int z :: r.map (x_in ρ), hc, outs, x_ext.rf, Nat.le_refl _, hsat, ⟨by rw [List.map_cons, v2, c3], List.forall_mem_cons.mpr ⟨v4 _ c2, hr⟩⟩, ⟨hin, hun, hca, hvn⟩, hstc z xs g1 g2, hk, fun _ z => z⟩
                    · refine fresh e z xs g1 g2 g3 _ (fun ρ' r1 r2 r3 r4 => ?_) hk
                      intro e' he'
                      rcases List.mem_cons.mp he' with rfl | he'
                      · exact ⟨by show 0 < 2; decide, r3, by rw [y_get_a g1, g2, r2]; rfl⟩
                      · exact (hca.up r1 r4) e' he'
                  · cases hk
                · split at hk
                  · rename_i e he
                    obtain ⟨xs, z, g1, g2, g3⟩ := y_hq_ok hin he q0 k0 (by omega) (by omega) (by omega) (by omega)
                    exact fresh e z xs g1 g2 g3 _ (fun ρ' r1 r2 r3 r4 => hca.up r1 r4) hk
                  · cases hk
              · cases hk
            · cases hk
          · cases hk
      · cases hk
    · cases hk
/-! stores -/
noncomputable def y_wr (e : Int × Int × Bool) (d : List (List yF)) (a m : Nat) : Bool := Nat.rec (motive := fun _ => Bool) (match x_g d a with
  | some f => y_le e f.2
  | none => false) (fun k ih => match ih with
  | false => false
  | true => match x_g d (a + (k + 1)) with
    | some f => y_le e f.2
    | none => false) m
theorem y_wr_ok {e : Int × Int × Bool} {d : List (List yF)} {a : Nat} : ∀ {m : Nat}, y_wr e d a m = true → ∀ i, a ≤ i → i ≤ a + m → ∃ f, x_g d i = some f ∧ y_le e f.2 = true := by
  intro m
  induction m with
  | zero =>
    intro h i h1 h2
    have hi : i = a := by omega
    subst hi
    have h : (match x_g d i with
      | some f => y_le e f.2
      | none => false) = true := h
    cases hf : x_g d i with
    | none => rw [hf] at h; cases h
    | some f => rw [hf] at h; exact ⟨f, rfl, h⟩
  | succ k ih =>
    intro h i h1 h2
    have h : (match y_wr e d a k with
      | false => false
      | true => match x_g d (a + (k + 1)) with
        | some f => y_le e f.2
        | none => false) = true := h
    cases he : y_wr e d a k with
    | false => rw [he] at h; cases h
    | true =>
      rw [he] at h
      by_cases hi : i = a + (k + 1)
      · subst hi
        dsimp only at h
        cases hf : x_g d (a + (k + 1)) with
        | none => rw [hf] at h; cases h
        | some f => rw [hf] at h; exact ⟨f, rfl, h⟩
      · exact ih he i h1 (by omega)
/-- cells lo to lo + m take e at places a to a + k, and may be written there -/
noncomputable def y_wq (g : yQ) (md : yMd) (t : Nat) (e : Int × Int × Bool) (lo a k : Nat) (m : Nat) : Bool := Nat.rec (motive := fun _ => Bool) (match y_ac g t lo with
  | some p => Nat.ble (a + k + 1) p.1 && (y_wr e p.2 a k && y_md lo a (a + k) md)
  | none => false) (fun j ih => match ih with
  | false => false
  | true => match y_ac g t (lo + (j + 1)) with
    | some p => Nat.ble (a + k + 1) p.1 && (y_wr e p.2 a k && y_md (lo + (j + 1)) a (a + k) md)
    | none => false) m
theorem y_wq_ok {g : yQ} {md : yMd} {t : Nat} {e : Int × Int × Bool} {lo a k : Nat} {hc : ev_H} (hi : y_in g hc) : ∀ {m : Nat}, y_wq g md t e lo a k m = true → ∀ q i, lo ≤ q → q ≤ lo + m → a ≤ i → i ≤ a + k → ∃ (n : Nat) (d : List (List yF)) (xs : List Int32) (f : yF), x_g g q = some (0, t, n, d) ∧ hc[q]? = some (.inl (t, xs)) ∧ xs.length = n ∧ i < n ∧ (∀ i f z, x_g d i = some f → xs[i]? = some z → x_s1 f.2 z.toInt) ∧ x_g d i = some f ∧ y_le e f.2 = true ∧ y_cov md q i := by
  have base : ∀ {q : Nat} {p : Nat × List (List yF)}, y_ac g t q = some p → (Nat.ble (a + k + 1) p.1 && (y_wr e p.2 a k && y_md q a (a + k) md)) = true → ∀ i, a ≤ i → i ≤ a + k → ∃ (n : Nat) (d : List (List yF)) (xs : List Int32) (f : yF), x_g g q = some (0, t, n, d) ∧ hc[q]? = some (.inl (t, xs)) ∧ xs.length = n ∧ i < n ∧ (∀ i f z, x_g d i = some f → xs[i]? = some z → x_s1 f.2 z.toInt) ∧ x_g d i = some f ∧ y_le e f.2 = true ∧ y_cov md q i := by
    intro q p h1 h2 i i1 i2
    obtain ⟨n, d⟩ := p
    obtain ⟨⟨c, c1, c2⟩, xs, g1, g2, g3⟩ := y_ac_ok h1 hi
    subst c2
    simp only [Bool.and_eq_true] at h2
    have b1 : a + k + 1 ≤ n := Nat.le_of_ble_eq_true h2.1
    obtain ⟨f, f1, f2⟩ := y_wr_ok h2.2.1 i i1 i2
    exact ⟨n, d, xs, f, c1, g1, g2, by omega, g3, f1, f2, y_md_ok h2.2.2 i i1 i2⟩
  intro m
  induction m with
  | zero =>
    intro h q i q1 q2 i1 i2
    have hq : q = lo := by omega
    subst hq
    have h : (match y_ac g t q with
      | some p => Nat.ble (a + k + 1) p.1 && (y_wr e p.2 a k && y_md q a (a + k) md)
      | none => false) = true := h
    cases hp : y_ac g t q with
    | none => rw [hp] at h; cases h
    | some p => rw [hp] at h; exact base hp h i i1 i2
  | succ j ih =>
    intro h q i q1 q2 i1 i2
    have h : (match y_wq g md t e lo a k j with
      | false => false
      | true => match y_ac g t (lo + (j + 1)) with
        | some p => Nat.ble (a + k + 1) p.1 && (y_wr e p.2 a k && y_md (lo + (j + 1)) a (a + k) md)
        | none => false) = true := h
    cases he : y_wq g md t e lo a k j with
    | false => rw [he] at h; cases h
    | true =>
      rw [he] at h
      by_cases hq : q = lo + (j + 1)
      · subst hq
        dsimp only at h
        cases hp : y_ac g t (lo + (j + 1)) with
        | none => rw [hp] at h; cases h
        | some p => rw [hp] at h; exact base hp h i i1 i2
      · exact ih he q i q1 (by omega) i1 i2
noncomputable def yo_as (g : yQ) (t : Nat) (next : yK) : yK := fun L st h env kc ks => match st with
  | w :: st1 => match st1 with
    | i :: st2 => match st2 with
      | v :: r => match Nat.beq v.1 2 && (Nat.beq i.1 0 && (x_ak t env w && y_rg env w)) with
        | true => match y_bn env v with
          | some q => match y_bn env i with
            | some k => match y_ent env w with
              | some e => match y_wq g h.1 t e q.1 k.1 (k.2 - k.1) (q.2 - q.1) with
                | true => match Nat.beq q.1 q.2 && Nat.beq k.1 k.2 with
                  | true => next L r (h.1, (q.1, k.1, w) :: y_dr q.1 q.2 k.1 k.2 h.2.1, h.2.2) env kc ks
                  | false => next L r (h.1, y_dr q.1 q.2 k.1 k.2 h.2.1, h.2.2) env kc ks
                | false => none
              | none => none
            | none => none
          | none => none
        | false => none
      | [] => none
    | [] => none
  | [] => none
theorem ys_as {t0 : Nat} (hf : ev_f t pc = some (pp0, i, a, b, pp, v)) (ht : x_asti t0 = some i) (hlen : ev_len i = 1) (hn : y_S h0 scx (rt, ini, mx, na, rc, fr, lo, mc, ms, t) (pc + 1) next) : y_S h0 scx (rt, ini, mx, na, rc, fr, lo, mc, ms, t) pc (yo_as h0.1 t0 next) :=
  y_S_h hf (by rw [hlen]; exact hn) fun L st h env kc ks outs hk ρ sc stc hc hX hsat hst hh => by
    unfold yo_as at hk
    split at hk
    · rename_i w st1
      split at hk
      · rename_i ix st2
        split at hk
        · rename_i x r
          have hr : ∀ z ∈ r, x_ok env.length z := fun z hz => hst.2 z (by simp [hz])
          split at hk
          · rename_i hb
            simp only [Bool.and_eq_true] at hb
            obtain ⟨b1, b2, b3, b4⟩ := hb
            have b1 := Nat.eq_of_beq_eq_true b1
            have b2 := Nat.eq_of_beq_eq_true b2
            split at hk
            · rename_i q hq
              split at hk
              · rename_i k hkk
                split at hk
                · rename_i e he
                  split at hk
                  · rename_i hwq
                    obtain ⟨ql, qu⟩ := q
                    obtain ⟨kl, ku⟩ := k
                    obtain ⟨q0, q1, q2, q3, q4⟩ := y_bn_ok hq hsat
                    obtain ⟨k0, k1, k2, k3, k4⟩ := y_bn_ok hkk hsat
                    obtain ⟨hin, hun, hca, hvn⟩ := hh
                    obtain ⟨j2, j3⟩ := y_ixn (k := k0) (by omega)
                    obtain ⟨n, d, xs, f, g1, g2, g3, g4, g5, g6, g7, g8⟩ := y_wq_ok hin hwq q0 k0 q2 (by dsimp only; omega) k2 (by dsimp only; omega)
                    have hl : k0 < xs.length := by omega
                    have hql := (List.getElem?_eq_some_iff.mp g2).1
                    obtain ⟨w0, hstep⟩ := x_ast_c (sc := sc) (ini := ini) (a := a) (b := b) (r := r.map (x_in ρ)) ht hsat b3 j2 j3 g2 hl
                    have hz : (Int32.ofInt (x_vl ρ w)).toInt = x_vl ρ w := by
                      unfold y_rg at b4
                      rw [w0] at b4
                      obtain ⟨w1, w2⟩ := x_wi_ok hsat b4
                      exact x_i32 w1 w2
                    have hg := y_get_setA (z := Int32.ofInt (x_vl ρ w)) g2 hl
                    have hin' : y_in h0.1 (hc.set q0 (.inl (t0, xs.set k0 (Int32.ofInt (x_vl ρ w))))) := y_in_set hin (fun c hc' => by
                      rw [g1] at hc'
                      cases hc'
                      refine ⟨_, rfl, by rw [List.length_set]; exact g3, fun m f' z' hm hz' => ?_⟩
                      rw [List.getElem?_set] at hz'
                      by_cases hmk : k0 = m
                      · subst hmk
                        rw [if_pos rfl, if_pos hl] at hz'
                        cases hz'
                        have hm : x_g d k0 = some f' := hm
                        rw [g6] at hm
                        cases hm
                        rw [hz]
                        exact y_le_ok g7 (y_ent_ok hsat he)
                      · rw [if_neg hmk] at hz'
                        exact g5 m f' z' hm hz') hql
                    have hun' : y_un h.1 h0.2 (hc.set q0 (.inl (t0, xs.set k0 (Int32.ofInt (x_vl ρ w))))) := fun q' i' hnc => by
                      rw [hg, if_neg]
                      · exact hun q' i' hnc
                      · rintro ⟨rfl, rfl⟩
                        exact hnc g8
                    have hca' : y_ca env.length ρ (y_dr ql qu kl ku h.2.1) (hc.set q0 (.inl (t0, xs.set k0 (Int32.ofInt (x_vl ρ w))))) := fun e' he' => by
                      obtain ⟨m1, m2⟩ := y_dr_ok he'
                      obtain ⟨n1, n2, n3⟩ := hca e' m1
                      refine ⟨n1, n2, ?_⟩
                      rw [hg, if_neg]
                      · exact n3
                      · rintro ⟨z1, z2⟩
                        exact m2 (by rw [z1, z2]; exact ⟨q2, q3, k2, k3⟩)
                    have hev : ev_h sc i ini a b stc hc = some (r.map (x_in ρ), hc.set q0 (.inl (t0, xs.set k0 (Int32.ofInt (x_vl ρ w))))) := by
                      rw [hst.1, List.map_cons, List.map_cons, List.map_cons, x_in0 b2, x_in2 b1, q1, k1, Int.toNat_natCast]
                      exact hstep
                    split at hk
                    · rename_i hs
                      rw [Bool.and_eq_true] at hs
                      have s1 : ql = qu := Nat.eq_of_beq_eq_true hs.1
                      have s2 : kl = ku := Nat.eq_of_beq_eq_true hs.2
                      refine ⟨ρ, r, (h.1, (ql, kl, w) :: y_dr ql qu kl ku h.2.1, h.2.2), env, r.map (x_in ρ), hc.set q0 (.inl (t0, xs.set k0 (Int32.ofInt (x_vl ρ w)))), outs, x_ext.rf, Nat.le_refl _, hsat, ⟨rfl, hr⟩, ⟨hin', hun', fun e' he' => ?_, hvn⟩, hev, hk, fun _ z => z⟩
                      rcases List.mem_cons.mp he' with rfl | he'
                      · have eq0 : ql = q0 := by omega
                        have ek0 : kl = k0 := by omega
                        exact ⟨by show w.1 < 2; rw [w0]; decide, hst.2 w (by simp), by rw [hg, if_pos ⟨eq0, ek0⟩, x_in0 w0]⟩
                      · exact hca' e' he'
                    · exact ⟨ρ, r, (h.1, y_dr ql qu kl ku h.2.1, h.2.2), env, r.map (x_in ρ), hc.set q0 (.inl (t0, xs.set k0 (Int32.ofInt (x_vl ρ w)))), outs, x_ext.rf, Nat.le_refl _, hsat, ⟨rfl, hr⟩, ⟨hin', hun', hca', hvn⟩, hev, hk, fun _ z => z⟩
                  · cases hk
                · cases hk
              · cases hk
            · cases hk
          · cases hk
        · cases hk
      · cases hk
    · cases hk
/-! rows, lengths -/
noncomputable def yo_aa (g : yQ) (next : yK) : yK := fun L st h env kc ks => match st with
  | i :: st' => match st' with
    | v :: r => match Nat.beq v.1 2 && (Nat.beq v.2.1 0 && Nat.beq i.1 0) with
      | true => match x_g g v.2.2.toNat with
        | some c => match Nat.beq c.1 1 && (Nat.ble c.2.2.1 100000 && x_wi 0 (Int.ofNat c.2.2.1 - 1) env i) with
          | true => next L ((2, i.2.1, i.2.2 + Int.ofNat c.2.1) :: r) h env kc ks
          | false => none
        | none => none
      | false => none
    | [] => none
  | [] => none
theorem ys_aa (hf : ev_f t pc = some (pp0, .aaload, a, b, pp, v)) (hn : y_S h0 scx (rt, ini, mx, na, rc, fr, lo, mc, ms, t) (pc + 1) next) : y_S h0 scx (rt, ini, mx, na, rc, fr, lo, mc, ms, t) pc (yo_aa h0.1 next) :=
  y_S_h hf hn fun L st h env kc ks outs hk ρ sc stc hc hX hsat hst hh => by
    unfold yo_aa at hk
    split at hk
    · rename_i ix st'
      split at hk
      · rename_i x r
        split at hk
        · rename_i hb
          simp only [Bool.and_eq_true] at hb
          obtain ⟨b1, b2, b3⟩ := hb
          have b1 := Nat.eq_of_beq_eq_true b1
          have b2 := Nat.eq_of_beq_eq_true b2
          have q3 := Nat.eq_of_beq_eq_true b3
          split at hk
          · rename_i c hcg
            split at hk
            · rename_i hq
              simp only [Bool.and_eq_true] at hq
              obtain ⟨q1, q2, q4⟩ := hq
              obtain ⟨cc, g3, g4⟩ := hh.1 _ c hcg
              obtain ⟨c1, c2, c3, c4⟩ := c
              have q1 : c1 = 1 := Nat.eq_of_beq_eq_true q1
              subst q1
              have g4 : cc = .inr (.inl ((List.range c3).map (fun i => c2 + i))) := g4
              subst g4
              have q2 : c3 ≤ 100000 := Nat.le_of_ble_eq_true q2
              obtain ⟨w1, w2⟩ := x_wi_ok hsat q4
              have w2 : x_vl ρ ix ≤ (c3 : Int) - 1 := w2
              obtain ⟨k1, k2⟩ := x_ixn (k := x_vl ρ ix) w1 (by omega)
              have oi : x_ok env.length ix := hst.2 ix (by simp)
              have hlt : (x_vl ρ ix).toNat < c3 := by omega
              refine ⟨ρ, (2, ix.2.1, ix.2.2 + Int.ofNat c2) :: r, h, env, .ref (c2 + (x_vl ρ ix).toNat) :: r.map (x_in ρ), hc, outs, x_ext.rf, Nat.le_refl _, hsat, ⟨?_, List.forall_mem_cons.mpr ⟨oi, fun z hz => hst.2 z (by simp [hz])⟩⟩, hh, ?_, hk, fun _ z => z⟩
              · rw [List.map_cons, x_in2 rfl]
                have : x_vl ρ ((2, ix.2.1, ix.2.2 + Int.ofNat c2) : xv) = x_vl ρ ix + (c2 : Int) := by
                  obtain ⟨ka, sa, oa⟩ := ix
                  cases sa with
                  | zero => rfl
                  | succ sa => show ρ sa + (oa + (c2 : Int)) = ρ sa + oa + (c2 : Int); omega
                have e9 : (x_vl ρ ((2, ix.2.1, ix.2.2 + Int.ofNat c2) : xv)).toNat = c2 + (x_vl ρ ix).toNat := by
                  rw [this]
                  omega
                rw [e9]
              · rw [hst.1, List.map_cons, List.map_cons, x_in2 b1, x_vl0 b2, x_in0 q3]
                show (match hc[x.2.2.toNat]? with
                  | some (.inr (.inl rs)) => match ev_inn (Int32.ofInt (x_vl ρ ix)) rs.length with
                    | true => some (Value.ref (rs.getD (Int32.ofInt (x_vl ρ ix)).toNatClampNeg 0) :: r.map (x_in ρ), hc)
                    | false => none
                  | _ => none) = _
                rw [g3]
                dsimp only
                rw [x_inn k1 k2 (by rw [List.length_map, List.length_range]; exact hlt), k1]
                dsimp only
                rw [List.getD_eq_getElem?_getD, List.getElem?_map, List.getElem?_range hlt]
                rfl
            · cases hk
          · cases hk
        · cases hk
      · cases hk
    · cases hk
/-- all arrays of cells lo to lo + m have this length -/
noncomputable def y_ln (g : yQ) (n lo : Nat) (m : Nat) : Bool := Nat.rec (motive := fun _ => Bool) (match x_g g lo with
  | some c => Nat.beq c.1 0 && (Nat.ble (c.2.1 + 1) 3 && Nat.beq c.2.2.1 n)
  | none => false) (fun j ih => match ih with
  | false => false
  | true => match x_g g (lo + (j + 1)) with
    | some c => Nat.beq c.1 0 && (Nat.ble (c.2.1 + 1) 3 && Nat.beq c.2.2.1 n)
    | none => false) m
theorem y_ln_ok {g : yQ} {n lo : Nat} {hc : ev_H} (hi : y_in g hc) : ∀ {m : Nat}, y_ln g n lo m = true → ∀ q, lo ≤ q → q ≤ lo + m → ∃ (t : Nat) (xs : List Int32), hc[q]? = some (.inl (t, xs)) ∧ t < 3 ∧ xs.length = n := by
  have base : ∀ {q : Nat} {c : yC}, x_g g q = some c → (Nat.beq c.1 0 && (Nat.ble (c.2.1 + 1) 3 && Nat.beq c.2.2.1 n)) = true → ∃ (t : Nat) (xs : List Int32), hc[q]? = some (.inl (t, xs)) ∧ t < 3 ∧ xs.length = n := by
    intro q c h1 h2
    simp only [Bool.and_eq_true] at h2
    obtain ⟨cc, g1, g2⟩ := hi q c h1
    obtain ⟨c1, c2, c3, c4⟩ := c
    have b1 : c1 = 0 := Nat.eq_of_beq_eq_true h2.1
    subst b1
    obtain ⟨xs, e1, e2, -⟩ := g2
    subst e1
    exact ⟨c2, xs, g1, Nat.le_of_ble_eq_true h2.2.1, e2.trans (Nat.eq_of_beq_eq_true h2.2.2)⟩
  intro m
  induction m with
  | zero =>
    intro h q q1 q2
    have hq : q = lo := by omega
    subst hq
    have h : (match x_g g q with
      | some c => Nat.beq c.1 0 && (Nat.ble (c.2.1 + 1) 3 && Nat.beq c.2.2.1 n)
      | none => false) = true := h
    cases hp : x_g g q with
    | none => rw [hp] at h; cases h
    | some c => rw [hp] at h; exact base hp h
  | succ j ih =>
    intro h q q1 q2
    have h : (match y_ln g n lo j with
      | false => false
      | true => match x_g g (lo + (j + 1)) with
        | some c => Nat.beq c.1 0 && (Nat.ble (c.2.1 + 1) 3 && Nat.beq c.2.2.1 n)
        | none => false) = true := h
    cases he : y_ln g n lo j with
    | false => rw [he] at h; cases h
    | true =>
      rw [he] at h
      by_cases hq : q = lo + (j + 1)
      · subst hq
        dsimp only at h
        cases hp : x_g g (lo + (j + 1)) with
        | none => rw [hp] at h; cases h
        | some c => rw [hp] at h; exact base hp h
      · exact ih he q q1 (by omega)
noncomputable def yo_len (g : yQ) (next : yK) : yK := fun L st h env kc ks => match st with
  | v :: r => match Nat.beq v.1 2 with
    | true => match y_bn env v with
      | some q => match x_g g q.1 with
        | some c => match y_ln g c.2.2.1 q.1 (q.2 - q.1) with
          | true => next L ((0, 0, Int.ofNat c.2.2.1) :: r) h env kc ks
          | false => none
        | none => none
      | none => none
    | false => none
  | [] => none
theorem ys_len (hf : ev_f t pc = some (pp0, .arraylength, a, b, pp, v)) (hn : y_S h0 scx (rt, ini, mx, na, rc, fr, lo, mc, ms, t) (pc + 1) next) : y_S h0 scx (rt, ini, mx, na, rc, fr, lo, mc, ms, t) pc (yo_len h0.1 next) :=
  y_S_h hf hn fun L st h env kc ks outs hk ρ sc stc hc hX hsat hst hh => by
    unfold yo_len at hk
    split at hk
    · rename_i x r
      have hr : ∀ z ∈ r, x_ok env.length z := fun z hz => hst.2 z (by simp [hz])
      split at hk
      · rename_i h2
        split at hk
        · rename_i q hq
          split at hk
          · rename_i c hcg
            split at hk
            · rename_i hl
              obtain ⟨ql, qu⟩ := q
              obtain ⟨q0, q1, q2, q3, q4⟩ := y_bn_ok hq hsat
              obtain ⟨t9, xs, g1, g2, g3⟩ := y_ln_ok hh.1 hl q0 q2 (by dsimp only; omega)
              refine ⟨ρ, (0, 0, Int.ofNat c.2.2.1) :: r, h, env, .int (Int32.ofNat c.2.2.1) :: r.map (x_in ρ), hc, outs, x_ext.rf, Nat.le_refl _, hsat, ⟨?_, List.forall_mem_cons.mpr ⟨Nat.zero_le _, hr⟩⟩, hh, ?_, hk, fun _ z => z⟩
              · rw [List.map_cons, x_in0 rfl, ← Int32.ofInt_eq_ofNat]
                rfl
              · rw [hst.1, List.map_cons, x_in2 (Nat.eq_of_beq_eq_true h2), q1, Int.toNat_natCast]
                show (match hc[q0]? with
                  | some (.inl (t, xs)) => if t < 3 then some (Value.int (Int32.ofNat xs.length) :: r.map (x_in ρ), hc) else none
                  | _ => none) = _
                rw [g1]
                dsimp only
                rw [if_pos g2, g3]
            · cases hk
          · cases hk
        · cases hk
      · cases hk
    · cases hk
end YAR
