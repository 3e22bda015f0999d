/-! more rows over the other heap -/
section YMO
variable {h0 : yQ × ev_H} {scx : yX} {rt ini mx na rc fr lo mc ms : Nat} {t : ev_T} {pc pp0 a b pp : Nat} {i : Instr} {v : Value} {next : yK}
theorem ys_cl (hf : ev_f t pc = some (pp0, i, a, b, pp, v)) (hk0 : ev_k i b = some 0) {rt' ini' mx' na' rc' fr' lo' mc' ms' : Nat} {t' : ev_T} {q9 : MethodName × ByteArray × Option FieldType × Nat × Nat × Nat × Nat} (hm : ev_ms a = some ((rt', ini', mx', na', rc', fr', lo', mc', ms', t'), q9))
    (hfit : (ev_fit i (rt', ini', mx', na', rc', fr', lo', mc', ms', t') && (Nat.ble (fr' + 1) fr && Nat.ble (8 + (mx' + 11) + lo') lo)) = true) {m : List xv → yH → xE → yR} (hM : y_Ma h0 a m) (hn : y_S h0 scx (rt, ini, mx, na, rc, fr, lo, mc, ms, t) (pc + 3) next) : y_S h0 scx (rt, ini, mx, na, rc, fr, lo, mc, ms, t) pc (yo_cl h0.1 m rc' na' mx' mc' ms' mc ms next) := by
  intro L st h env kc ks outs hk ρ sc Lc stc hc hX hG Q hQ
  obtain ⟨hsat, hL, hst, hh⟩ := hG
  unfold yo_cl at hk
  split at hk
  · cases hk
  · rename_i p hp
    split at hk
    · cases hk
    · rename_i q hq
      split at hk
      · cases hk
      · rename_i hb
        split at hk
        · cases hk
        · rename_i os hos
          obtain ⟨ar, oa, or⟩ := y_ar_ok hp hq hh.1 hst.2
          have hfit' := hfit
          simp only [Bool.and_eq_true] at hb hfit'
          obtain ⟨b1, b2, b3, b4⟩ := hb
          refine x_W_k hf hk0 hm (as := q.1.map (x_in ρ)) (r := q.2.map (x_in ρ)) (by rw [hst.1]; exact ar) ?_ ?_
          · rw [x_cs_ok, x_cs_ok, hfit'.1, hfit'.2.1, hfit'.2.2, b1, b2, b3, b4]
            rfl
          · refine hM _ hm q.1 h env os hos ρ hc hsat oa hh _ (fun o ho ρ' hc' e1 e2 e3 e4 e5 => ?_)
            obtain ⟨l, l1, l2⟩ := y_sq_ok hk o ho
            have hl2 : ∀ x ∈ l, y_O h0 sc (rt, ini, mx, na, rc, fr, lo, mc, ms, t) Q ρ' o.2.2.2.2.1.length x := fun x hx => (hQ x (l2 x hx)).up e1 e2
            have hrr : x_rS o.2.2.2.2.1.length ρ' q.2 (q.2.map (x_in ρ)) := x_rS.up ⟨rfl, or⟩ e1 e2
            split at l1
            · rename_i h9
              rw [h9]
              exact hn L q.2 o.2.2.2.1 o.2.2.2.2.1 _ _ l l1 ρ' sc Lc _ hc' (hX.up e1 e2) ⟨e3, hL.up e1 e2, hrr, e5⟩ Q hl2
            · rename_i w r9 h9
              split at l1
              · rw [h9]
                refine hn L (w :: q.2) o.2.2.2.1 o.2.2.2.2.1 _ _ l l1 ρ' sc Lc _ hc' (hX.up e1 e2) ⟨e3, hL.up e1 e2, ⟨?_, List.forall_mem_cons.mpr ⟨e4 w (by rw [h9]; simp), hrr.2⟩⟩, e5⟩ Q hl2
                show x_in ρ' w :: q.2.map (x_in ρ) = x_in ρ' w :: q.2.map (x_in ρ')
                rw [← hrr.1]
              · cases l1
/-- the first contract that fits -/
noncomputable def y_pick (env : xE) (as : List xv) (cts : List yCt) : Option yCt := List.rec (motive := fun _ => Option yCt) none (fun ct _ ih => match y_cks env ct.1 as with
  | true => some ct
  | false => ih) cts
theorem y_pick_ok {env : xE} {as : List xv} {ct : yCt} : ∀ {cts : List yCt}, y_pick env as cts = some ct → ct ∈ cts := by
  intro cts
  induction cts with
  | nil => intro h; cases h
  | cons c cts ih =>
    intro h
    have h : (match y_cks env c.1 as with
      | true => some c
      | false => y_pick env as cts) = some ct := h
    cases hb : y_cks env c.1 as with
    | true => rw [hb] at h; cases h; exact List.mem_cons_self
    | false => rw [hb] at h; exact List.mem_cons_of_mem _ (ih h)
noncomputable def yo_cts (g : yQ) (cts : List yCt) (rc na mx' mc' ms' mc ms : Nat) (next : yK) : yK := fun L st h env kc ks => match x_pops na st [] with
  | none => none
  | some p => match y_rcv g rc p with
    | none => none
    | some q => match y_pick env q.1 cts with
      | none => none
      | some ct => yo_ct g ct rc na mx' mc' ms' mc ms next L st h env kc ks
theorem ys_cts (hf : ev_f t pc = some (pp0, i, a, b, pp, v)) (hk0 : ev_k i b = some 0) {rt' ini' mx' na' rc' fr' lo' mc' ms' : Nat} {t' : ev_T} {q9 : MethodName × ByteArray × Option FieldType × Nat × Nat × Nat × Nat} (hm : ev_ms a = some ((rt', ini', mx', na', rc', fr', lo', mc', ms', t'), q9))
    (hfit : (ev_fit i (rt', ini', mx', na', rc', fr', lo', mc', ms', t') && (Nat.ble (fr' + 1) fr && Nat.ble (8 + (mx' + 11) + lo') lo)) = true) {cts : List yCt} (hM : ∀ ct ∈ cts, y_Mca h0.1 a ct) (hn : y_S h0 scx (rt, ini, mx, na, rc, fr, lo, mc, ms, t) (pc + 3) next) : y_S h0 scx (rt, ini, mx, na, rc, fr, lo, mc, ms, t) pc (yo_cts h0.1 cts rc' na' mx' mc' ms' mc ms next) := by
  intro L st h env kc ks outs hk
  unfold yo_cts at hk
  split at hk
  · cases hk
  · split at hk
    · cases hk
    · split at hk
      · cases hk
      · rename_i ct hct
        exact ys_ct hf hk0 hm hfit (hM ct (y_pick_ok hct)) hn L st h env kc ks outs hk
/-- the top of the stack cut in two -/
noncomputable def yo_cutv (c : Int) (K : yK) : yK := fun L st h env kc ks => match st with
  | v :: _ => y_fk (x_rl 1 env v (0, 0, c)) (fun e => K L st h e kc ks) (x_rl 0 env (0, 0, c) v) (fun e => K L st h e kc ks)
  | [] => none
theorem ys_cutv {I : ev_I} {c : Int} {K : yK} (hK : y_S h0 scx I pc K) : y_S h0 scx I pc (yo_cutv c K) := by
  refine y_S_of fun L st h env kc ks outs hk ρ sc Lc stc hc hX hG => ?_
  obtain ⟨hsat, hL, hst, hh⟩ := hG
  unfold yo_cutv at hk
  split at hk
  · rename_i x r
    have fin : ∀ (env' : xE) (l : List yo), x_sat ρ env' → env'.length = env.length → K L (x :: r) h env' kc ks = some l → (∀ o ∈ l, o ∈ outs) → ∃ (next : yK) (pc' : Nat) (ρ' : Nat → Int) (L' st' : List xv) (h' : yH) (env' : xE) (kc' ks' : Nat) (Lc' : ev_L) (stc' : List Value) (hc' : ev_H) (outs' : List yo), y_S h0 scx I pc' next ∧ x_ext env.length ρ ρ' ∧ env.length ≤ env'.length ∧ y_G h0 ρ' env' L' st' h' Lc' stc' hc' ∧ next L' st' h' env' kc' ks' = some outs' ∧ (∀ o ∈ outs', o ∈ outs) ∧
        ∀ Q, x_W sc I pc' Lc' stc' hc' kc' ks' Q → x_W sc I pc Lc stc hc kc ks Q := fun env' l e1 e2 e3 e4 =>
      ⟨K, pc, ρ, L, x :: r, h, env', kc, ks, Lc, stc, hc, l, hK, x_ext.rf, Nat.le_of_eq e2.symm, ⟨e1, by rw [e2]; exact hL, by rw [e2]; exact hst, by rw [e2]; exact hh⟩, e3, e4, fun Q hQ => hQ⟩
    by_cases h1 : x_vl ρ x < c
    · obtain ⟨e1, g1, g2, g3⟩ := x_rl_ok (k := 1) (a := x) (b := (0, 0, c)) hsat (by show x_vl ρ x + 1 ≤ c; omega)
      obtain ⟨l, l1, l2⟩ := y_fk_1 hk g1
      exact fin e1 l g2 g3 l1 l2
    · obtain ⟨e1, g1, g2, g3⟩ := x_rl_ok (k := 0) (a := (0, 0, c)) (b := x) hsat (by show c + 0 ≤ x_vl ρ x; omega)
      obtain ⟨l, l1, l2⟩ := y_fk_2 hk g1
      exact fin e1 l g2 g3 l1 l2
  · cases hk
/-! division, once for the same numbers -/
noncomputable def y_vl (op : Nat) (a b : xv) (vn : yVn) : Option xv := List.rec (motive := fun _ => Option xv) none (fun e _ ih => match Nat.beq e.1 op && (Nat.beq e.2.1.2.1 a.2.1 && (x_eq e.2.1.2.2 a.2.2 && (Nat.beq e.2.2.1.2.1 b.2.1 && x_eq e.2.2.1.2.2 b.2.2))) with
  | true => some e.2.2.2
  | false => ih) vn
theorem y_vl_ok {op : Nat} {a b r : xv} : ∀ {vn : yVn}, y_vl op a b vn = some r → ∃ e ∈ vn, e.1 = op ∧ e.2.1.2 = a.2 ∧ e.2.2.1.2 = b.2 ∧ e.2.2.2 = r := by
  intro vn
  induction vn with
  | nil => intro h; cases h
  | cons e vn ih =>
    intro h
    have h : (match Nat.beq e.1 op && (Nat.beq e.2.1.2.1 a.2.1 && (x_eq e.2.1.2.2 a.2.2 && (Nat.beq e.2.2.1.2.1 b.2.1 && x_eq e.2.2.1.2.2 b.2.2))) with
      | true => some e.2.2.2
      | false => y_vl op a b vn) = some r := h
    cases hb : (Nat.beq e.1 op && (Nat.beq e.2.1.2.1 a.2.1 && (x_eq e.2.1.2.2 a.2.2 && (Nat.beq e.2.2.1.2.1 b.2.1 && x_eq e.2.2.1.2.2 b.2.2)))) with
    | true =>
      rw [hb] at h
      cases h
      simp only [Bool.and_eq_true] at hb
      obtain ⟨b1, b2, b3, b4, b5⟩ := hb
      exact ⟨e, List.mem_cons_self, Nat.eq_of_beq_eq_true b1, Prod.ext (Nat.eq_of_beq_eq_true b2) (x_eq_iff.mp b3), Prod.ext (Nat.eq_of_beq_eq_true b4) (x_eq_iff.mp b5), rfl⟩
    | false =>
      rw [hb] at h
      obtain ⟨e', g1, g2⟩ := ih h
      exact ⟨e', List.mem_cons_of_mem _ g1, g2⟩
noncomputable def yo_dv (op : Nat) (g : xE → xv → xv → Option (xv × xE)) (next : yK) : yK := fun L st h env kc ks => match st with
  | b :: st' => match st' with
    | a :: r => match Nat.beq b.1 0 && Nat.beq a.1 0 with
      | true => match a.2.1 + b.2.1 with
        | 0 => match g env a b with
          | some p => next L (p.1 :: r) h p.2 kc ks
          | none => none
        | _ + 1 => match y_vl op a b h.2.2 with
          | some w => next L (x_kv env w :: r) h env kc ks
          | none => match g env a b with
            | some p => match Nat.beq p.1.1 0 with
              | true => next L (p.1 :: r) (h.1, h.2.1, (op, a, b, p.1) :: h.2.2) p.2 kc ks
              | false => none
            | none => none
      | false => none
    | [] => none
  | [] => none
theorem ys_dv (hf : ev_f t pc = some (pp0, i, a, b, pp, v)) (hn : y_S h0 scx (rt, ini, mx, na, rc, fr, lo, mc, ms, t) (pc + ev_len i) next) {op : Nat} {g : xE → xv → xv → Option (xv × xE)} (hg : x_g2 0 0 (ev_s i v) g) (hop : ∀ x y r, y_vo op x y r ↔ ∀ l, ev_s i v (y :: x :: l) = some (r :: l)) : y_S h0 scx (rt, ini, mx, na, rc, fr, lo, mc, ms, t) pc (yo_dv op g next) := by
  refine y_S_of fun L st h env kc ks outs hk ρ sc Lc stc hc hX hG => ?_
  obtain ⟨hsat, hL, hst, hin, hun, hca, hvn⟩ := hG
  unfold yo_dv at hk
  split at hk
  · rename_i y st'
    split at hk
    · rename_i x r
      split at hk
      · rename_i hq
        rw [Bool.and_eq_true] at hq
        have q1 := Nat.eq_of_beq_eq_true hq.1
        have q2 := Nat.eq_of_beq_eq_true hq.2
        have o1 := hst.2 x (by simp)
        have o2 := hst.2 y (by simp)
        have hr : ∀ z ∈ r, x_ok env.length z := fun z hz => hst.2 z (by simp [hz])
        split at hk
        · split at hk
          · rename_i p hp
            obtain ⟨ρ', g1, g2, g3, g4, g5⟩ := hg env x y p ρ hp q2 q1 hsat o1 o2
            refine ⟨next, _, ρ', L, p.1 :: r, h, p.2, kc, ks, Lc, x_in ρ' p.1 :: r.map (x_in ρ), hc, outs, hn, g1, g2, ⟨g3, hL.up g1 g2, ⟨by rw [List.map_cons, x_map_ext g1 hr], List.forall_mem_cons.mpr ⟨g4, fun z hz => (hr z hz).up g2⟩⟩, hin, hun, hca.up g1 g2, hvn.up g1 g2⟩, hk, fun _ z => z, fun Q hQ => x_W_s hf ?_ hQ⟩
            rw [hst.1, List.map_cons, List.map_cons, g5]
          · cases hk
        · split at hk
          · rename_i w hw
            obtain ⟨e, e1, e2, e3, e4, e5⟩ := y_vl_ok hw
            obtain ⟨f1, f2, f3, f4, ⟨f6, f7⟩, f5⟩ := hvn e e1
            subst e5
            have ex : e.2.1 = x := Prod.ext (by rw [f6, q2]) e3
            have ey : e.2.2.1 = y := Prod.ext (by rw [f7, q1]) e4
            rw [ex, ey, e2, hop] at f5
            obtain ⟨-, v2, -, v4⟩ := x_kv_ok (v := e.2.2.2) hsat
            refine ⟨next, _, ρ, L, x_kv env e.2.2.2 :: r, h, env, kc, ks, Lc, x_in ρ e.2.2.2 :: r.map (x_in ρ), hc, outs, hn, x_ext.rf, Nat.le_refl _, ⟨hsat, hL, ⟨by rw [List.map_cons, v2], List.forall_mem_cons.mpr ⟨v4 _ f3, hr⟩⟩, hin, hun, hca, hvn⟩, hk, fun _ z => z, fun Q hQ => x_W_s hf ?_ hQ⟩
            rw [hst.1, List.map_cons, List.map_cons, f5]
          · split at hk
            · rename_i p hp
              split at hk
              · rename_i hp0
                obtain ⟨ρ', g1, g2, g3, g4, g5⟩ := hg env x y p ρ hp q2 q1 hsat o1 o2
                refine ⟨next, _, ρ', L, p.1 :: r, (h.1, h.2.1, (op, x, y, p.1) :: h.2.2), p.2, kc, ks, Lc, x_in ρ' p.1 :: r.map (x_in ρ), hc, outs, hn, g1, g2, ⟨g3, hL.up g1 g2, ⟨by rw [List.map_cons, x_map_ext g1 hr], List.forall_mem_cons.mpr ⟨g4, fun z hz => (hr z hz).up g2⟩⟩, hin, hun, hca.up g1 g2, fun e he => ?_⟩, hk, fun _ z => z, fun Q hQ => x_W_s hf ?_ hQ⟩
                · rcases List.mem_cons.mp he with rfl | he
                  · refine ⟨o1.up g2, o2.up g2, g4, Nat.eq_of_beq_eq_true hp0, ⟨q2, q1⟩, ?_⟩
                    rw [hop]
                    intro l
                    show ev_s i v (x_in ρ' y :: x_in ρ' x :: l) = _
                    rw [x_in_ext g1 o1, x_in_ext g1 o2]
                    exact g5 l
                  · exact (hvn.up g1 g2) e he
                · rw [hst.1, List.map_cons, List.map_cons, g5]
              · cases hk
            · cases hk
      · cases hk
    · cases hk
  · cases hk
end YMO
