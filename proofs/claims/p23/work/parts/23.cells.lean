/-! cells of the symbols' machine -/
section XHE
variable {scx : Option (List xv)} {rt ini mx na rc fr lo mc ms : Nat} {t : ev_T} {pc pp0 a b pp : Nat} {i : Instr} {v : Value} {next : xK}
theorem x_S_h (hf : ev_f t pc = some (pp0, i, a, b, pp, v)) (hn : x_S scx (rt, ini, mx, na, rc, fr, lo, mc, ms, t) (pc + ev_len i) next) {K : xK} (hK : ∀ L st h env kc ks outs, K L st h env kc ks = some outs → ∀ ρ sc stc hc, x_rX env.length ρ scx sc → x_sat ρ env → x_rS env.length ρ st stc → x_rH env.length ρ h hc →
    ∃ (ρ' : Nat → Int) (st' : List xv) (h' : xH) (env' : xE) (stc' : List Value) (hc' : ev_H) (outs' : List xo), x_ext env.length ρ ρ' ∧ env.length ≤ env'.length ∧ x_sat ρ' env' ∧ x_rS env'.length ρ' st' stc' ∧ x_rH env'.length ρ' h' hc' ∧ ev_h sc i ini a b stc hc = some (stc', hc') ∧ next L st' h' env' kc ks = some outs' ∧ ∀ o ∈ outs', o ∈ outs) : x_S scx (rt, ini, mx, na, rc, fr, lo, mc, ms, t) pc K := by
  refine x_S_of fun L st h env kc ks outs hk ρ sc Lc stc hc hX hG => ?_
  obtain ⟨ρ', st', h', env', stc', hc', outs', g1, g2, g3, g4, g5, g6, g7, g8⟩ := hK L st h env kc ks outs hk ρ sc stc hc hX hG.1 hG.2.2.1 hG.2.2.2
  exact ⟨next, _, ρ', L, st', h', env', kc, ks, Lc, stc', hc', outs', hn, g1, g2, ⟨g3, hG.2.1.up g1 g2, g4, g5⟩, g7, g8, fun Q hQ => x_W_h hf g6 hQ⟩
/-- a known cell -/
noncomputable def x_cl (h : xH) (v : xv) : Option (Nat × xC) := match Nat.beq v.1 2 with
  | true => match v.2.1 with
    | 0 => match x_g h.2 v.2.2.toNat with
      | some c => some (v.2.2.toNat, c)
      | none => none
    | _ + 1 => none
  | false => none
theorem x_cl_ok {h : xH} {v : xv} {q : Nat} {c : xC} (hv : x_cl h v = some (q, c)) {n : Nat} {ρ : Nat → Int} {hc : ev_H} (hh : x_rH n ρ h hc) : x_in ρ v = .ref q ∧ x_g h.2 q = some c ∧ ∃ cc, hc[q]? = some cc ∧ x_rC n ρ c cc := by
  unfold x_cl at hv
  split at hv
  · rename_i h2
    split at hv
    · rename_i h0
      split at hv
      · rename_i c' hg
        cases hv
        exact ⟨by rw [x_in2 (Nat.eq_of_beq_eq_true h2), x_vl0 h0], hg, hh.2 _ _ hg⟩
      · cases hv
    · cases hv
  · cases hv
theorem x_rC0 {n : Nat} {ρ : Nat → Int} {c : xC} {cc : ev_C} (h : x_rC n ρ c cc) (h0 : c.1 = 0) : ∃ xs : List Int32, cc = .inl (c.2.1, xs) ∧ xs.length = c.2.2.1 ∧ ∀ i v, x_g c.2.2.2 i = some v → v.1 = 0 ∧ x_ok n v ∧ xs[i]? = some (Int32.ofInt (x_vl ρ v)) := by
  obtain ⟨k, r⟩ := c
  cases h0
  exact h
theorem x_rC1 {n : Nat} {ρ : Nat → Int} {c : xC} {cc : ev_C} (h : x_rC n ρ c cc) (h0 : c.1 = 1) : cc = .inr (.inl ((List.range c.2.2.1).map (fun i => c.2.1 + i))) := by
  obtain ⟨k, r⟩ := c
  cases h0
  exact h
theorem x_rC2 {n : Nat} {ρ : Nat → Int} {c : xC} {cc : ev_C} (h : x_rC n ρ c cc) (h0 : c.1 = 2) : ∃ fs : List Value, cc = .inr (.inr (c.2.1, fs)) ∧ ∀ i v, x_g c.2.2.2 i = some v → x_ok n v ∧ fs[i]? = some (x_in ρ v) := by
  obtain ⟨k, r⟩ := c
  cases h0
  exact h
theorem x_rH.set {n : Nat} {ρ : Nat → Int} {h : xH} {hc : ev_H} (hh : x_rH n ρ h hc) {q : Nat} {c0 c1 : xC} {cc1 : ev_C} (h0 : x_g h.2 q = some c0) (h1 : x_rC n ρ c1 cc1) : x_rH n ρ (h.1, x_p h.2 q c1) (hc.set q cc1) := by
  refine ⟨by rw [List.length_set]; exact hh.1, fun q' c hq => ?_⟩
  rcases x_g_p hq with ⟨rfl, rfl⟩ | ⟨hne, hq⟩
  · obtain ⟨cc, g1, -⟩ := hh.2 _ _ h0
    have hl := (List.getElem?_eq_some_iff.mp g1).1
    exact ⟨cc1, by rw [List.getElem?_set, if_pos rfl, if_pos hl], h1⟩
  · obtain ⟨cc, g1, g2⟩ := hh.2 _ _ hq
    exact ⟨cc, by rw [List.getElem?_set, if_neg (fun z => hne z.symm)]; exact g1, g2⟩
noncomputable def xo_gf (a b : Nat) (next : xK) : xK := fun L st h env kc ks => match st with
  | v :: r => match x_cl h v with
    | some p => match Nat.beq p.2.1 2 && Nat.beq p.2.2.1 a with
      | true => match x_g p.2.2.2.2 b with
        | some w => next L (x_kv env w :: r) h env kc ks
        | none => none
      | false => none
    | none => none
  | [] => none
theorem xs_gf {idx : Nat} (hf : ev_f t pc = some (pp0, .getfield idx, a, b, pp, v)) (hn : x_S scx (rt, ini, mx, na, rc, fr, lo, mc, ms, t) (pc + 3) next) : x_S scx (rt, ini, mx, na, rc, fr, lo, mc, ms, t) pc (xo_gf a b next) :=
  x_S_h hf hn fun L st h env kc ks outs hk ρ sc stc hc hX hsat hst hh => by
    unfold xo_gf at hk
    split at hk
    · rename_i x r
      split at hk
      · rename_i p hp
        obtain ⟨q, c⟩ := p
        obtain ⟨g1, g2, cc, g3, g4⟩ := x_cl_ok hp hh
        split at hk
        · rename_i hq
          rw [Bool.and_eq_true] at hq
          obtain ⟨fs, e1, e2⟩ := x_rC2 g4 (Nat.eq_of_beq_eq_true hq.1)
          split at hk
          · rename_i w hw
            obtain ⟨f1, f2⟩ := e2 b w hw
            obtain ⟨k1, k2, k3, k4⟩ := x_kv_ok (v := w) hsat
            refine ⟨ρ, x_kv env w :: r, h, env, x_in ρ w :: r.map (x_in ρ), hc, outs, x_ext.rf, Nat.le_refl _, hsat, ⟨by rw [List.map_cons, k2], List.forall_mem_cons.mpr ⟨k4 _ f1, fun z hz => hst.2 z (by simp [hz])⟩⟩, hh, ?_, hk, fun _ z => z⟩
            rw [hst.1, List.map_cons, g1]
            subst e1
            show (match hc[q]? with
              | some (.inr (.inr o)) => match Nat.beq o.1 a with
                | true => match o.2[b]? with
                  | some v => some (v :: r.map (x_in ρ), hc)
                  | none => none
                | false => none
              | _ => none) = _
            rw [g3]
            dsimp only
            rw [hq.2]
            dsimp only
            rw [f2]
          · cases hk
        · cases hk
      · cases hk
    · cases hk
/-- which values a field takes: 0 ints, 1 longs, 2 booleans, 3 cells -/
def x_pc (a b ini : Nat) : Option Nat := match vwCl[a]? with
  | some c => match ev_tys[a]? with
    | some ty => match decide (b < c.2.2 ∧ ((c.2.1 b).2.2.2 = false ∨ ini = a + 1)) with
      | true => match ty b with
        | .int => some 0
        | .long => some 1
        | .boolean => some 2
        | .object _ => some 3
        | .array _ => some 3
        | _ => none
      | false => none
    | none => none
  | none => none
noncomputable def x_pk (code : Nat) (env : xE) (w : xv) : Bool := match code with
  | 0 => Nat.beq w.1 0
  | 1 => Nat.beq w.1 1
  | 2 => Nat.beq w.1 0 && x_wi 0 1 env w
  | 3 => Nat.beq w.1 2
  | _ => false
theorem x_pc_ok {a b ini code : Nat} (h : x_pc a b ini = some code) {env : xE} {w : xv} {ρ : Nat → Int} (hsat : x_sat ρ env) (hw : x_pk code env w = true) : ∃ c ty, vwCl[a]? = some c ∧ ev_tys[a]? = some ty ∧ b < c.2.2 ∧ ((c.2.1 b).2.2.2 = false ∨ ini = a + 1) ∧ ev_pok (ty b) (x_in ρ w) = true := by
  unfold x_pc at h
  split at h
  · rename_i c hc
    split at h
    · rename_i ty ht
      split at h
      · rename_i hd
        have hd := of_decide_eq_true hd
        refine ⟨c, ty, hc, ht, hd.1, hd.2, ?_⟩
        split at h
        · rename_i hty
          cases h
          rw [hty, x_in0 (Nat.eq_of_beq_eq_true hw)]
          rfl
        · rename_i hty
          cases h
          rw [hty, x_in1 (Nat.eq_of_beq_eq_true hw)]
          rfl
        · rename_i hty
          cases h
          have hw : (Nat.beq w.1 0 && x_wi 0 1 env w) = true := hw
          rw [Bool.and_eq_true] at hw
          obtain ⟨w1, w2⟩ := x_wi_ok hsat hw.2
          rw [hty, x_in0 (Nat.eq_of_beq_eq_true hw.1)]
          have : x_vl ρ w = 0 ∨ x_vl ρ w = 1 := by omega
          rcases this with z | z
          · rw [z]; rfl
          · rw [z]; rfl
        · rename_i hty
          cases h
          rw [hty, x_in2 (Nat.eq_of_beq_eq_true hw)]
          rfl
        · rename_i hty
          cases h
          rw [hty, x_in2 (Nat.eq_of_beq_eq_true hw)]
          rfl
        · cases h
      · cases h
    · cases h
  · cases h
noncomputable def xo_pf (a b code : Nat) (next : xK) : xK := fun L st h env kc ks => match st with
  | w :: st' => match st' with
    | v :: r => match x_cl h v with
      | some p => match Nat.beq p.2.1 2 && (Nat.beq p.2.2.1 a && x_pk code env w) with
        | true => match x_g p.2.2.2.2 b with
          | some _ => next L r (h.1, x_p h.2 p.1 (2, a, 0, x_p p.2.2.2.2 b w)) env kc ks
          | none => none
        | false => none
      | none => none
    | [] => none
  | [] => none
theorem xs_pf {idx code : Nat} (hf : ev_f t pc = some (pp0, .putfield idx, a, b, pp, v)) (hcode : x_pc a b ini = some code) (hn : x_S scx (rt, ini, mx, na, rc, fr, lo, mc, ms, t) (pc + 3) next) : x_S scx (rt, ini, mx, na, rc, fr, lo, mc, ms, t) pc (xo_pf a b code next) :=
  x_S_h hf hn fun L st h env kc ks outs hk ρ sc stc hc hX hsat hst hh => by
    unfold xo_pf at hk
    split at hk
    · rename_i w st'
      split at hk
      · rename_i x r
        split at hk
        · rename_i p hp
          obtain ⟨q, c⟩ := p
          obtain ⟨g1, g2, cc, g3, g4⟩ := x_cl_ok hp hh
          split at hk
          · rename_i hq
            simp only [Bool.and_eq_true] at hq
            obtain ⟨fs, e1, e2⟩ := x_rC2 g4 (Nat.eq_of_beq_eq_true hq.1)
            split at hk
            · rename_i w0 hw0
              obtain ⟨f1, f2⟩ := e2 b w0 hw0
              have hbl := (List.getElem?_eq_some_iff.mp f2).1
              obtain ⟨c9, ty, t1, t2, t3, t4, t5⟩ := x_pc_ok hcode hsat hq.2.2
              have hw : x_ok env.length w := hst.2 w (by simp)
              have hca : c.2.1 = a := Nat.eq_of_beq_eq_true hq.2.1
              refine ⟨ρ, r, (h.1, x_p h.2 q (2, a, 0, x_p c.2.2.2 b w)), env, r.map (x_in ρ), hc.set q (.inr (.inr (a, fs.set b (x_in ρ w)))), outs, x_ext.rf, Nat.le_refl _, hsat, ⟨rfl, fun z hz => hst.2 z (by simp [hz])⟩, hh.set g2 ?_, ?_, hk, fun _ z => z⟩
              · refine ⟨fs.set b (x_in ρ w), rfl, fun j u hj => ?_⟩
                rcases x_g_p hj with ⟨rfl, rfl⟩ | ⟨hne, hj⟩
                · exact ⟨hw, by rw [List.getElem?_set, if_pos rfl, if_pos hbl]⟩
                · obtain ⟨i1, i2⟩ := e2 j u hj
                  exact ⟨i1, by rw [List.getElem?_set, if_neg (fun z => hne z.symm)]; exact i2⟩
              · rw [hst.1, List.map_cons, List.map_cons, g1]
                subst e1
                show (match hc[q]? with
                  | some (.inr (.inr o)) => match Nat.beq o.1 a with
                    | true => if b < o.2.length then match vwCl[a]?, ev_tys[a]? with
                        | some c, some ty => if b < c.2.2 ∧ ((c.2.1 b).2.2.2 = false ∨ ini = a + 1) ∧ ev_pok (ty b) (x_in ρ w) = true then some (r.map (x_in ρ), hc.set q (.inr (.inr (a, o.2.set b (x_in ρ w))))) else none
                        | _, _ => none
                      else none
                    | false => none
                  | _ => none) = _
                rw [g3]
                dsimp only
                rw [hq.2.1]
                dsimp only
                rw [if_pos hbl, t1, t2]
                dsimp only
                rw [if_pos ⟨t3, t4, t5⟩]
            · cases hk
          · cases hk
        · cases hk
      · cases hk
    · cases hk
/-! arrays -/
def x_ix (i : xv) : Option Nat := match i.1 + i.2.1 with
  | 0 => match x_le 0 i.2.2 && x_le i.2.2 100000 with
    | true => some i.2.2.toNat
    | false => none
  | _ + 1 => none
theorem x_ixn {k : Int} (h1 : 0 ≤ k) (h2 : k ≤ 100000) : (Int32.ofInt k).toNatClampNeg = k.toNat ∧ ¬ Int32.ofInt k < 0 := by
  have e := x_i32 (a := k) (by omega) (by omega)
  refine ⟨by show (Int32.ofInt k).toInt.toNat = _; rw [e], fun z => ?_⟩
  have z := Int32.lt_iff_toInt_lt.mp z
  rw [e] at z
  have e0 : (0 : Int32).toInt = 0 := by decide
  omega
theorem x_ix_ok {i : xv} {k : Nat} (h : x_ix i = some k) (ρ : Nat → Int) : ∃ j : Int32, x_in ρ i = .int j ∧ j.toNatClampNeg = k ∧ ¬ j < 0 := by
  unfold x_ix at h
  split at h
  · rename_i hz
    split at h
    · rename_i hr
      cases h
      rw [Bool.and_eq_true] at hr
      have h1 : i.1 = 0 := by omega
      have h2 : i.2.1 = 0 := by omega
      obtain ⟨e1, e2⟩ := x_ixn (x_le_iff.mp hr.1) (x_le_iff.mp hr.2)
      exact ⟨Int32.ofInt i.2.2, by rw [x_in0 h1, x_vl0 h2], e1, e2⟩
    · cases h
  · cases h
theorem x_inn {j : Int32} {k n : Nat} (h1 : j.toNatClampNeg = k) (h2 : ¬ j < 0) (h3 : k < n) : ev_inn j n = true := by
  unfold ev_inn
  rw [decide_eq_false h2, h1, decide_eq_true h3]
  rfl
noncomputable def xo_al (scx : Option (List xv)) (t : Nat) (next : xK) : xK := fun L st h env kc ks => match st with
  | i :: st' => match st' with
    | v :: r => match x_ix i with
      | some k => match Nat.beq v.1 3 with
        | true => match scx with
          | some x => match x_n x k with
            | some w => match Nat.beq t 0 with
              | true => next L (x_kv env w :: r) h env kc ks
              | false => none
            | none => none
          | none => none
        | false => match x_cl h v with
          | some p => match Nat.beq p.2.1 0 && Nat.beq p.2.2.1 t with
            | true => match x_g p.2.2.2.2 k with
              | some w => next L (x_kv env w :: r) h env kc ks
              | none => none
            | false => none
          | none => none
      | none => none
    | [] => none
  | [] => none
def x_aldi (t : Nat) : Option Instr := match t with
  | 0 => some .iaload
  | 1 => some .caload
  | 2 => some .baload
  | _ => none
theorem x_ald_c {sc : Option (List Int32)} {t ini a b q k : Nat} {i : Instr} {j : Int32} {xs : List Int32} {hc : ev_H} {r : List Value} {z : Int32} (ht : x_aldi t = some i) (h1 : j.toNatClampNeg = k) (h2 : ¬ j < 0) (hq : hc[q]? = some (.inl (t, xs))) (hk : xs[k]? = some z) : ev_h sc i ini a b (.int j :: .ref q :: r) hc = some (.int z :: r, hc) := by
  have hl := (List.getElem?_eq_some_iff.mp hk).1
  have hin := x_inn h1 h2 hl
  have hg : xs.getD k 0 = z := by rw [List.getD_eq_getElem?_getD, hk]; rfl
  match t, ht with
  | 0, ht =>
    cases ht
    show (match hc[q]? with
      | some (.inl (0, xs)) => match ev_inn j xs.length with
        | true => some (Value.int (xs.getD j.toNatClampNeg 0) :: r, hc)
        | false => none
      | _ => none) = _
    rw [hq]
    show (match ev_inn j xs.length with
      | true => some (Value.int (xs.getD j.toNatClampNeg 0) :: r, hc)
      | false => none) = _
    rw [hin, h1, hg]
  | 1, ht =>
    cases ht
    show (match hc[q]? with
      | some (.inl (1, xs)) => match ev_inn j xs.length with
        | true => some (Value.int (xs.getD j.toNatClampNeg 0) :: r, hc)
        | false => none
      | _ => none) = _
    rw [hq]
    show (match ev_inn j xs.length with
      | true => some (Value.int (xs.getD j.toNatClampNeg 0) :: r, hc)
      | false => none) = _
    rw [hin, h1, hg]
  | 2, ht =>
    cases ht
    show (match hc[q]? with
      | some (.inl (2, xs)) => match ev_inn j xs.length with
        | true => some (Value.int (xs.getD j.toNatClampNeg 0) :: r, hc)
        | false => none
      | _ => none) = _
    rw [hq]
    show (match ev_inn j xs.length with
      | true => some (Value.int (xs.getD j.toNatClampNeg 0) :: r, hc)
      | false => none) = _
    rw [hin, h1, hg]
theorem xs_al {t0 : Nat} (hf : ev_f t pc = some (pp0, i, a, b, pp, v)) (ht : x_aldi t0 = some i) (hlen : ev_len i = 1) (hn : x_S scx (rt, ini, mx, na, rc, fr, lo, mc, ms, t) (pc + 1) next) : x_S scx (rt, ini, mx, na, rc, fr, lo, mc, ms, t) pc (xo_al scx t0 next) :=
  x_S_h hf (by rw [hlen]; exact hn) fun L st h env kc ks outs hk ρ sc stc hc hX hsat hst hh => by
    unfold xo_al at hk
    split at hk
    · rename_i ix st'
      split at hk
      · rename_i x r
        split at hk
        · rename_i k hix
          obtain ⟨j, j1, j2, j3⟩ := x_ix_ok hix ρ
          have hr : ∀ z ∈ r, x_ok env.length z := fun z hz => hst.2 z (by simp [hz])
          split at hk
          · rename_i h3
            split at hk
            · rename_i xx
              split at hk
              · rename_i w hw
                split at hk
                · rename_i ht0
                  have ht0 := Nat.eq_of_beq_eq_true ht0
                  subst ht0
                  cases ht
                  rw [x_n_eq] at hw
                  obtain ⟨x1, x2⟩ := hX.2 xx rfl w (List.mem_of_getElem? hw)
                  obtain ⟨k1, k2, k3, k4⟩ := x_kv_ok (v := w) hsat
                  refine ⟨ρ, x_kv env w :: r, h, env, x_in ρ w :: r.map (x_in ρ), hc, outs, x_ext.rf, Nat.le_refl _, hsat, ⟨by rw [List.map_cons, k2], List.forall_mem_cons.mpr ⟨k4 _ x2, hr⟩⟩, hh, ?_, hk, fun _ z => z⟩
                  rw [hst.1, List.map_cons, List.map_cons, j1, x_in3 (Nat.eq_of_beq_eq_true h3), hX.1, x_in0 x1]
                  have hk2 : (xx.map (fun v => Int32.ofInt (x_vl ρ v)))[k]? = some (Int32.ofInt (x_vl ρ w)) := by rw [List.getElem?_map, hw]; rfl
                  show (match ev_inn j (xx.map (fun v => Int32.ofInt (x_vl ρ v))).length with
                    | true => some (Value.int ((xx.map (fun v => Int32.ofInt (x_vl ρ v))).getD j.toNatClampNeg 0) :: r.map (x_in ρ), hc)
                    | false => none) = _
                  rw [x_inn j2 j3 (List.getElem?_eq_some_iff.mp hk2).1, j2, List.getD_eq_getElem?_getD, hk2]
                  rfl
                · cases hk
              · cases hk
            · cases hk
          · split at hk
            · rename_i p hp
              obtain ⟨q, c⟩ := p
              obtain ⟨g1, g2, cc, g3, g4⟩ := x_cl_ok hp hh
              split at hk
              · rename_i hq
                rw [Bool.and_eq_true] at hq
                obtain ⟨xs, e1, e2, e3⟩ := x_rC0 g4 (Nat.eq_of_beq_eq_true hq.1)
                split at hk
                · rename_i w hw
                  obtain ⟨f1, f2, f3⟩ := e3 k w hw
                  have hct : c.2.1 = t0 := Nat.eq_of_beq_eq_true hq.2
                  rw [hct] at e1
                  subst e1
                  obtain ⟨k1, k2, k3, k4⟩ := x_kv_ok (v := w) hsat
                  refine ⟨ρ, x_kv env w :: r, h, env, x_in ρ w :: r.map (x_in ρ), hc, outs, x_ext.rf, Nat.le_refl _, hsat, ⟨by rw [List.map_cons, k2], List.forall_mem_cons.mpr ⟨k4 _ f2, hr⟩⟩, hh, ?_, hk, fun _ z => z⟩
                  rw [hst.1, List.map_cons, List.map_cons, j1, g1, x_in0 f1]
                  exact x_ald_c ht j2 j3 g3 f3
                · cases hk
              · cases hk
            · cases hk
        · cases hk
      · cases hk
    · cases hk
/-- which values an array takes: all, chars, booleans -/
noncomputable def x_ak (t : Nat) (env : xE) (w : xv) : Bool := match t with
  | 0 => Nat.beq w.1 0
  | 1 => Nat.beq w.1 0 && x_wi 0 65535 env w
  | 2 => Nat.beq w.1 0 && x_wi 0 1 env w
  | _ => false
def x_asti (t : Nat) : Option Instr := match t with
  | 0 => some .iastore
  | 1 => some .castore
  | 2 => some .bastore
  | _ => none
theorem x_ast_c {sc : Option (List Int32)} {t ini a b q k : Nat} {i : Instr} {j : Int32} {xs : List Int32} {hc : ev_H} {r : List Value} {env : xE} {w : xv} {ρ : Nat → Int} (ht : x_asti t = some i) (hsat : x_sat ρ env) (hw : x_ak t env w = true) (h1 : j.toNatClampNeg = k) (h2 : ¬ j < 0) (hq : hc[q]? = some (.inl (t, xs))) (hl : k < xs.length) : w.1 = 0 ∧ ev_h sc i ini a b (x_in ρ w :: .int j :: .ref q :: r) hc = some (r, hc.set q (.inl (t, xs.set k (Int32.ofInt (x_vl ρ w))))) := by
  have hin := x_inn h1 h2 hl
  match t, ht with
  | 0, ht =>
    cases ht
    have hw : w.1 = 0 := Nat.eq_of_beq_eq_true hw
    refine ⟨hw, ?_⟩
    rw [x_in0 hw]
    show (match hc[q]? with
      | some (.inl (0, xs)) => match ev_inn j xs.length with
        | true => some (r, hc.set q (.inl (0, xs.set j.toNatClampNeg (Int32.ofInt (x_vl ρ w)))))
        | false => none
      | _ => none) = _
    rw [hq]
    show (match ev_inn j xs.length with
      | true => some (r, hc.set q (.inl (0, xs.set j.toNatClampNeg (Int32.ofInt (x_vl ρ w)))))
      | false => none) = _
    rw [hin, h1]
  | 1, ht =>
    cases ht
    have hw : (Nat.beq w.1 0 && x_wi 0 65535 env w) = true := hw
    rw [Bool.and_eq_true] at hw
    have h0 := Nat.eq_of_beq_eq_true hw.1
    obtain ⟨w1, w2⟩ := x_wi_ok hsat hw.2
    have hnar : vp_nar .char (Int32.ofInt (x_vl ρ w)) = Int32.ofInt (x_vl ρ w) := by
      have := x_nchar w1 w2
      unfold vp_nar
      rw [this]
    refine ⟨h0, ?_⟩
    rw [x_in0 h0]
    show (match hc[q]? with
      | some (.inl (1, xs)) => match ev_inn j xs.length with
        | true => some (r, hc.set q (.inl (1, xs.set j.toNatClampNeg (vp_nar .char (Int32.ofInt (x_vl ρ w))))))
        | false => none
      | _ => none) = _
    rw [hq]
    show (match ev_inn j xs.length with
      | true => some (r, hc.set q (.inl (1, xs.set j.toNatClampNeg (vp_nar .char (Int32.ofInt (x_vl ρ w))))))
      | false => none) = _
    rw [hin, h1, hnar]
  | 2, ht =>
    cases ht
    have hw : (Nat.beq w.1 0 && x_wi 0 1 env w) = true := hw
    rw [Bool.and_eq_true] at hw
    have h0 := Nat.eq_of_beq_eq_true hw.1
    obtain ⟨w1, w2⟩ := x_wi_ok hsat hw.2
    have hnar : vp_nar .boolean (Int32.ofInt (x_vl ρ w)) = Int32.ofInt (x_vl ρ w) := by
      have : x_vl ρ w = 0 ∨ x_vl ρ w = 1 := by omega
      rcases this with z | z
      · rw [z]; rfl
      · rw [z]; rfl
    refine ⟨h0, ?_⟩
    rw [x_in0 h0]
    show (match hc[q]? with
      | some (.inl (2, xs)) => match ev_inn j xs.length with
        | true => some (r, hc.set q (.inl (2, xs.set j.toNatClampNeg (vp_nar .boolean (Int32.ofInt (x_vl ρ w))))))
        | false => none
      | _ => none) = _
    rw [hq]
    show (match ev_inn j xs.length with
      | true => some (r, hc.set q (.inl (2, xs.set j.toNatClampNeg (vp_nar .boolean (Int32.ofInt (x_vl ρ w))))))
      | false => none) = _
    rw [hin, h1, hnar]
noncomputable def xo_as (t : Nat) (next : xK) : xK := fun L st h env kc ks => match st with
  | w :: st1 => match st1 with
    | i :: st2 => match st2 with
      | v :: r => match x_ix i with
        | some k => match x_cl h v with
          | some p => match Nat.beq p.2.1 0 && (Nat.beq p.2.2.1 t && x_ak t env w) with
            | true => match x_g p.2.2.2.2 k with
              | some _ => next L r (h.1, x_p h.2 p.1 (0, t, p.2.2.2.1, x_p p.2.2.2.2 k w)) env kc ks
              | none => none
            | false => none
          | none => none
        | none => none
      | [] => none
    | [] => none
  | [] => none
theorem xs_as {t0 : Nat} (hf : ev_f t pc = some (pp0, i, a, b, pp, v)) (ht : x_asti t0 = some i) (hlen : ev_len i = 1) (hn : x_S scx (rt, ini, mx, na, rc, fr, lo, mc, ms, t) (pc + 1) next) : x_S scx (rt, ini, mx, na, rc, fr, lo, mc, ms, t) pc (xo_as t0 next) :=
  x_S_h hf (by rw [hlen]; exact hn) fun L st h env kc ks outs hk ρ sc stc hc hX hsat hst hh => by
    unfold xo_as at hk
    split at hk
    · rename_i w st1
      split at hk
      · rename_i ix st2
        split at hk
        · rename_i x r
          split at hk
          · rename_i k hix
            obtain ⟨j, j1, j2, j3⟩ := x_ix_ok hix ρ
            have hr : ∀ z ∈ r, x_ok env.length z := fun z hz => hst.2 z (by simp [hz])
            split at hk
            · rename_i p hp
              obtain ⟨q, c⟩ := p
              obtain ⟨g1, g2, cc, g3, g4⟩ := x_cl_ok hp hh
              split at hk
              · rename_i hq
                simp only [Bool.and_eq_true] at hq
                obtain ⟨xs, e1, e2, e3⟩ := x_rC0 g4 (Nat.eq_of_beq_eq_true hq.1)
                split at hk
                · rename_i w0 hw0
                  obtain ⟨f1, f2, f3⟩ := e3 k w0 hw0
                  have hl := (List.getElem?_eq_some_iff.mp f3).1
                  have hct : c.2.1 = t0 := Nat.eq_of_beq_eq_true hq.2.1
                  rw [hct] at e1
                  subst e1
                  obtain ⟨w0', hstep⟩ := x_ast_c (sc := sc) (ini := ini) (a := a) (b := b) (r := r.map (x_in ρ)) ht hsat hq.2.2 j2 j3 g3 hl
                  refine ⟨ρ, r, (h.1, x_p h.2 q (0, t0, c.2.2.1, x_p c.2.2.2 k w)), env, r.map (x_in ρ), hc.set q (.inl (t0, xs.set k (Int32.ofInt (x_vl ρ w)))), outs, x_ext.rf, Nat.le_refl _, hsat, ⟨rfl, hr⟩, hh.set g2 ?_, ?_, hk, fun _ z => z⟩
                  · refine ⟨xs.set k (Int32.ofInt (x_vl ρ w)), rfl, by rw [List.length_set]; exact e2, fun m u hm => ?_⟩
                    rcases x_g_p hm with ⟨rfl, rfl⟩ | ⟨hne, hm⟩
                    · exact ⟨w0', hst.2 u (by simp), by rw [List.getElem?_set, if_pos rfl, if_pos hl]⟩
                    · obtain ⟨i1, i2, i3⟩ := e3 m u hm
                      exact ⟨i1, i2, by rw [List.getElem?_set, if_neg (fun z => hne z.symm)]; exact i3⟩
                  · rw [hst.1, List.map_cons, List.map_cons, List.map_cons, j1, g1]
                    exact hstep
                · cases hk
              · cases hk
            · cases hk
          · cases hk
        · cases hk
      · cases hk
    · cases hk
end XHE
