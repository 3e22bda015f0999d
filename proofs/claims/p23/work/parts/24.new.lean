/-! rows of rows, what is new, calls -/
/-- a list in rows of eight -/
def x_ch (l : List xv) : List (List xv) := (List.range (l.length / 8 + 1)).map (fun j => (l.drop (8 * j)).take 8)
theorem x_ch_g {l : List xv} {i : Nat} {v : xv} (h : x_g (x_ch l) i = some v) : l[i]? = some v := by
  unfold x_g at h
  rw [x_n_eq] at h
  unfold x_ch at h
  rw [List.getElem?_map] at h
  cases hr : (List.range (l.length / 8 + 1))[i / 8]? with
  | none => rw [hr] at h; cases h
  | some j =>
    rw [hr] at h
    have hj : j = i / 8 := by
      have := List.getElem?_eq_some_iff.mp hr
      obtain ⟨h1, h2⟩ := this
      rw [List.getElem_range] at h2
      exact h2.symm
    subst hj
    have h : x_n ((l.drop (8 * (i / 8))).take 8) (i % 8) = some v := h
    rw [x_n_eq, List.getElem?_take_of_lt (by omega), List.getElem?_drop] at h
    rw [show 8 * (i / 8) + i % 8 = i by omega] at h
    exact h
theorem x_rH.push {n : Nat} {ρ : Nat → Int} {h : xH} {hc : ev_H} (hh : x_rH n ρ h hc) {c : xC} {cc : ev_C} {d : List (List xC)} (hd : x_a h.1 h.2 c = some d) (hcc : x_rC n ρ c cc) : x_rH n ρ (h.1 + 1, d) (hc ++ [cc]) := by
  refine ⟨by rw [List.length_append, hh.1]; rfl, fun q c' hq => ?_⟩
  rcases x_g_a hd hq with ⟨rfl, rfl⟩ | hq
  · exact ⟨cc, by rw [← hh.1]; simp, hcc⟩
  · obtain ⟨c2, g1, g2⟩ := hh.2 q c' hq
    exact ⟨c2, by rw [List.getElem?_append_left (List.getElem?_eq_some_iff.mp g1).1]; exact g1, g2⟩
noncomputable def x_am (c : xC) (m : Nat) : xH → Option xH := Nat.rec (motive := fun _ => xH → Option xH) (fun h => some h) (fun _ ih h => match x_a h.1 h.2 c with
  | some d => ih (h.1 + 1, d)
  | none => none) m
theorem x_am_ok {n : Nat} {ρ : Nat → Int} {c : xC} {cc : ev_C} (hcc : x_rC n ρ c cc) : ∀ (m : Nat) {h h' : xH} {hc : ev_H}, x_rH n ρ h hc → x_am c m h = some h' → x_rH n ρ h' (hc ++ List.replicate m cc) := by
  intro m
  induction m with
  | zero =>
    intro h h' hc hh he
    cases he
    rw [List.replicate_zero, List.append_nil]
    exact hh
  | succ m ih =>
    intro h h' hc hh he
    have he : (match x_a h.1 h.2 c with
      | some d => x_am c m (h.1 + 1, d)
      | none => none) = some h' := he
    cases hd : x_a h.1 h.2 c with
    | none => rw [hd] at he; cases he
    | some d =>
      rw [hd] at he
      have := ih (hh.push hd hcc) he
      rw [List.append_assoc] at this
      rw [List.replicate_succ]
      exact this
section XNE
variable {scx : Option (List xv)} {rt ini mx na rc fr lo mc ms : Nat} {t : ev_T} {pc pp0 a b pp : Nat} {i : Instr} {v : Value} {next : xK}
noncomputable def xo_aa (next : xK) : xK := fun L st h env kc ks => match st with
  | i :: st' => match st' with
    | v :: r => match x_cl h v with
      | some p => match Nat.beq p.2.1 1 && (Nat.ble p.2.2.2.1 100000 && (Nat.beq i.1 0 && x_wi 0 (Int.ofNat p.2.2.2.1 - 1) env i)) with
        | true => next L ((2, i.2.1, i.2.2 + Int.ofNat p.2.2.1) :: r) h env kc ks
        | false => none
      | none => none
    | [] => none
  | [] => none
theorem xs_aa (hf : ev_f t pc = some (pp0, .aaload, a, b, pp, v)) (hn : x_S scx (rt, ini, mx, na, rc, fr, lo, mc, ms, t) (pc + 1) next) : x_S scx (rt, ini, mx, na, rc, fr, lo, mc, ms, t) pc (xo_aa next) :=
  x_S_h hf hn fun L st h env kc ks outs hk ρ sc stc hc hX hsat hst hh => by
    unfold xo_aa at hk
    split at hk
    · rename_i ix st'
      split at hk
      · rename_i x r
        split at hk
        · rename_i p hp
          obtain ⟨q, c⟩ := p
          obtain ⟨g1, g2, cc, g3, g4⟩ := x_cl_ok hp hh
          split at hk
          · rename_i hq
            simp only [Bool.and_eq_true] at hq
            obtain ⟨q1, q2, q3, q4⟩ := hq
            have e1 := x_rC1 g4 (Nat.eq_of_beq_eq_true q1)
            have q2 : c.2.2.1 ≤ 100000 := Nat.le_of_ble_eq_true q2
            have q3 := Nat.eq_of_beq_eq_true q3
            obtain ⟨w1, w2⟩ := x_wi_ok hsat q4
            have w2 : x_vl ρ ix ≤ (c.2.2.1 : Int) - 1 := w2
            obtain ⟨k1, k2⟩ := x_ixn (k := x_vl ρ ix) w1 (by omega)
            have oi : x_ok env.length ix := hst.2 ix (by simp)
            subst e1
            have hlt : (x_vl ρ ix).toNat < c.2.2.1 := by omega
            refine ⟨ρ, (2, ix.2.1, ix.2.2 + Int.ofNat c.2.1) :: r, h, env, .ref (c.2.1 + (x_vl ρ ix).toNat) :: r.map (x_in ρ), hc, outs, x_ext.rf, Nat.le_refl _, hsat, ⟨?_, List.forall_mem_cons.mpr ⟨oi, fun z hz => hst.2 z (by simp [hz])⟩⟩, hh, ?_, hk, fun _ z => z⟩
            · rw [List.map_cons, x_in2 rfl]
              have : x_vl ρ ((2, ix.2.1, ix.2.2 + Int.ofNat c.2.1) : xv) = x_vl ρ ix + (c.2.1 : Int) := by
                obtain ⟨ka, sa, oa⟩ := ix
                cases sa with
                | zero => rfl
                | succ sa => show ρ sa + (oa + (c.2.1 : Int)) = ρ sa + oa + (c.2.1 : Int); omega
              have e9 : (x_vl ρ ((2, ix.2.1, ix.2.2 + Int.ofNat c.2.1) : xv)).toNat = c.2.1 + (x_vl ρ ix).toNat := by
                rw [this]
                omega
              rw [e9]
            · rw [hst.1, List.map_cons, List.map_cons, g1, x_in0 q3]
              show (match hc[q]? with
                | some (.inr (.inl rs)) => match ev_inn (Int32.ofInt (x_vl ρ ix)) rs.length with
                  | true => some (Value.ref (rs.getD (Int32.ofInt (x_vl ρ ix)).toNatClampNeg 0) :: r.map (x_in ρ), hc)
                  | false => none
                | _ => none) = _
              rw [g3]
              dsimp only
              rw [x_inn k1 k2 (by rw [List.length_map, List.length_range]; exact hlt), k1]
              dsimp only
              rw [List.getD_eq_getElem?_getD, List.getElem?_map, List.getElem?_range hlt]
              rfl
          · cases hk
        · cases hk
      · cases hk
    · cases hk
noncomputable def xo_len (scx : Option (List xv)) (next : xK) : xK := fun L st h env kc ks => match st with
  | v :: r => match Nat.beq v.1 3 with
    | true => match scx with
      | some x => next L ((0, 0, Int.ofNat x.length) :: r) h env kc ks
      | none => none
    | false => match x_cl h v with
      | some p => match Nat.beq p.2.1 0 && Nat.ble (p.2.2.1 + 1) 3 with
        | true => next L ((0, 0, Int.ofNat p.2.2.2.1) :: r) h env kc ks
        | false => none
      | none => none
  | [] => none
theorem xs_len (hf : ev_f t pc = some (pp0, .arraylength, a, b, pp, v)) (hn : x_S scx (rt, ini, mx, na, rc, fr, lo, mc, ms, t) (pc + 1) next) : x_S scx (rt, ini, mx, na, rc, fr, lo, mc, ms, t) pc (xo_len scx next) :=
  x_S_h hf hn fun L st h env kc ks outs hk ρ sc stc hc hX hsat hst hh => by
    unfold xo_len at hk
    split at hk
    · rename_i x r
      have hr : ∀ z ∈ r, x_ok env.length z := fun z hz => hst.2 z (by simp [hz])
      split at hk
      · rename_i h3
        split at hk
        · rename_i xx
          refine ⟨ρ, (0, 0, Int.ofNat xx.length) :: r, h, env, .int (Int32.ofNat xx.length) :: r.map (x_in ρ), hc, outs, x_ext.rf, Nat.le_refl _, hsat, ⟨?_, List.forall_mem_cons.mpr ⟨Nat.zero_le _, hr⟩⟩, hh, ?_, hk, fun _ z => z⟩
          · rw [List.map_cons, x_in0 rfl, ← Int32.ofInt_eq_ofNat]
            rfl
          · rw [hst.1, List.map_cons, x_in3 (Nat.eq_of_beq_eq_true h3), hX.1]
            show some (Value.int (Int32.ofNat (xx.map (fun v => Int32.ofInt (x_vl ρ v))).length) :: r.map (x_in ρ), hc) = _
            rw [List.length_map]
        · cases hk
      · split at hk
        · rename_i p hp
          obtain ⟨q, c⟩ := p
          obtain ⟨g1, g2, cc, g3, g4⟩ := x_cl_ok hp hh
          split at hk
          · rename_i hq
            rw [Bool.and_eq_true] at hq
            obtain ⟨xs, e1, e2, e3⟩ := x_rC0 g4 (Nat.eq_of_beq_eq_true hq.1)
            have q2 : c.2.1 < 3 := Nat.le_of_ble_eq_true hq.2
            refine ⟨ρ, (0, 0, Int.ofNat c.2.2.1) :: r, h, env, .int (Int32.ofNat c.2.2.1) :: r.map (x_in ρ), hc, outs, x_ext.rf, Nat.le_refl _, hsat, ⟨?_, List.forall_mem_cons.mpr ⟨Nat.zero_le _, hr⟩⟩, hh, ?_, hk, fun _ z => z⟩
            · rw [List.map_cons, x_in0 rfl, ← Int32.ofInt_eq_ofNat]
              rfl
            · rw [hst.1, List.map_cons, g1]
              subst e1
              show (match hc[q]? with
                | some (.inl (t, xs)) => if t < 3 then some (Value.int (Int32.ofNat xs.length) :: r.map (x_in ρ), hc) else none
                | _ => none) = _
              rw [g3]
              dsimp only
              rw [if_pos q2, e2]
          · cases hk
        · cases hk
    · cases hk
/-! arraycopy -/
noncomputable def x_cy (d0 : List (List xv)) (sp dp : Nat) (d1 : List (List xv)) (n : Nat) : Option (List (List xv)) := Nat.rec (motive := fun _ => Option (List (List xv))) (some d1) (fun k ih => match ih with
  | none => none
  | some d => match x_g d0 (sp + k) with
    | none => none
    | some v => some (x_p d (dp + k) v)) n
theorem x_cy_ok {d0 : List (List xv)} {sp dp : Nat} {d1 : List (List xv)} : ∀ (n : Nat) {d : List (List xv)}, x_cy d0 sp dp d1 n = some d → ∀ i v, x_g d i = some v → (dp ≤ i ∧ i < dp + n ∧ x_g d0 (sp + (i - dp)) = some v) ∨ (¬ (dp ≤ i ∧ i < dp + n) ∧ x_g d1 i = some v) := by
  intro n
  induction n with
  | zero =>
    intro d h i v hi
    cases h
    exact Or.inr ⟨by omega, hi⟩
  | succ k ih =>
    intro d h i v hi
    have h : (match x_cy d0 sp dp d1 k with
      | none => none
      | some d => match x_g d0 (sp + k) with
        | none => none
        | some v => some (x_p d (dp + k) v)) = some d := h
    cases hd : x_cy d0 sp dp d1 k with
    | none => rw [hd] at h; cases h
    | some d' =>
      rw [hd] at h
      dsimp only at h
      cases hv : x_g d0 (sp + k) with
      | none => rw [hv] at h; cases h
      | some w =>
        rw [hv] at h
        cases h
        rcases x_g_p hi with ⟨rfl, rfl⟩ | ⟨hne, hi⟩
        · exact Or.inl ⟨by omega, by omega, by rw [show dp + k - dp = k by omega]; exact hv⟩
        · rcases ih hd i v hi with ⟨h1, h2, h3⟩ | ⟨h1, h2⟩
          · exact Or.inl ⟨h1, by omega, h3⟩
          · exact Or.inr ⟨by omega, h2⟩
noncomputable def x_cs (l : List xv) : Nat := List.rec (motive := fun _ => Nat) 0 (fun v _ ih => match Nat.beq v.1 1 with
  | true => ih + 2
  | false => ih + 1) l
theorem x_cs_ok (ρ : Nat → Int) : ∀ l : List xv, ev_sum (l.map (x_in ρ)) = x_cs l := by
  intro l
  induction l with
  | nil => rfl
  | cons v r ih =>
    have e : ev_sum ((v :: r).map (x_in ρ)) = (x_in ρ v).category + ev_sum (r.map (x_in ρ)) := rfl
    have e2 : x_cs (v :: r) = (match Nat.beq v.1 1 with
      | true => x_cs r + 2
      | false => x_cs r + 1) := rfl
    rw [e, e2, ih]
    cases h : Nat.beq v.1 1 with
    | true =>
      rw [x_in1 (Nat.eq_of_beq_eq_true h)]
      show 2 + x_cs r = x_cs r + 2
      omega
    | false =>
      rw [x_cat (fun z => by rw [z] at h; cases h)]
      show 1 + x_cs r = x_cs r + 1
      omega
noncomputable def xo_cp (fr lo : Nat) (next : xK) : xK := fun L st h env kc ks => match st with
  | n :: st1 => match st1 with
    | dp :: st2 => match st2 with
      | d :: st3 => match st3 with
        | sp :: st4 => match st4 with
          | s :: r => match x_ix n with
            | none => none
            | some kn => match x_ix dp with
              | none => none
              | some kd => match x_ix sp with
                | none => none
                | some kp => match x_cl h s with
                  | none => none
                  | some p0 => match x_cl h d with
                    | none => none
                    | some p1 => match Nat.beq (p0.2.1 + p0.2.2.1) 0 && (Nat.beq (p1.2.1 + p1.2.2.1) 0 && (Nat.ble (kp + kn) p0.2.2.2.1 && (Nat.ble (kd + kn) p1.2.2.2.1 && (Nat.ble 1 fr && Nat.ble (x_cs r + 18) lo)))) with
                      | false => none
                      | true => match x_cy p0.2.2.2.2 kp kd p1.2.2.2.2 kn with
                        | none => none
                        | some d' => next L r (h.1, x_p h.2 p1.1 (0, 0, p1.2.2.2.1, d')) env kc ks
          | [] => none
        | [] => none
      | [] => none
    | [] => none
  | [] => none
theorem xs_cp (hf : ev_f t pc = some (pp0, i, a, b, pp, v)) (hk2 : ev_k i b = some 2) (hn : x_S scx (rt, ini, mx, na, rc, fr, lo, mc, ms, t) (pc + 3) next) : x_S scx (rt, ini, mx, na, rc, fr, lo, mc, ms, t) pc (xo_cp fr lo next) := by
  refine x_S_of fun L st h env kc ks outs hk ρ sc Lc stc hc hX hG => ?_
  obtain ⟨hsat, hL, hst, hh⟩ := hG
  unfold xo_cp at hk
  split at hk
  · rename_i xn st1
    split at hk
    · rename_i xdp st2
      split at hk
      · rename_i xd st3
        split at hk
        · rename_i xsp st4
          split at hk
          · rename_i xs9 r
            split at hk
            · cases hk
            · rename_i kn hkn
              split at hk
              · cases hk
              · rename_i kd hkd
                split at hk
                · cases hk
                · rename_i kp hkp
                  split at hk
                  · cases hk
                  · rename_i p0 hp0
                    split at hk
                    · cases hk
                    · rename_i p1 hp1
                      split at hk
                      · cases hk
                      · rename_i hq
                        split at hk
                        · cases hk
                        · rename_i d' hd'
                          obtain ⟨q0, c0⟩ := p0
                          obtain ⟨q1, c1⟩ := p1
                          obtain ⟨jn, n1, n2, n3⟩ := x_ix_ok hkn ρ
                          obtain ⟨jd, d1, d2, d3⟩ := x_ix_ok hkd ρ
                          obtain ⟨js, s1, s2, s3⟩ := x_ix_ok hkp ρ
                          obtain ⟨a1, a2, cc0, a3, a4⟩ := x_cl_ok hp0 hh
                          obtain ⟨b1, b2, cc1, b3, b4⟩ := x_cl_ok hp1 hh
                          simp only [Bool.and_eq_true] at hq
                          obtain ⟨z1, z2, z3, z4, z5, z6⟩ := hq
                          have z1 : c0.1 + c0.2.1 = 0 := Nat.eq_of_beq_eq_true z1
                          have z2 : c1.1 + c1.2.1 = 0 := Nat.eq_of_beq_eq_true z2
                          have z3 : kp + kn ≤ c0.2.2.1 := Nat.le_of_ble_eq_true z3
                          have z4 : kd + kn ≤ c1.2.2.1 := Nat.le_of_ble_eq_true z4
                          have z5 := Nat.le_of_ble_eq_true z5
                          have z6 := Nat.le_of_ble_eq_true z6
                          obtain ⟨xs, e1, e2, e3⟩ := x_rC0 a4 (by omega)
                          obtain ⟨ys, f1, f2, f3⟩ := x_rC0 b4 (by omega)
                          rw [show c0.2.1 = 0 by omega] at e1
                          rw [show c1.2.1 = 0 by omega] at f1
                          subst e1
                          subst f1
                          have hl1 : kp + kn ≤ xs.length := by omega
                          have hl2 : kd + kn ≤ ys.length := by omega
                          have hstc : stc = .int jn :: .int jd :: .ref q1 :: .int js :: .ref q0 :: r.map (x_in ρ) := by
                            rw [hst.1, List.map_cons, List.map_cons, List.map_cons, List.map_cons, List.map_cons, n1, d1, b1, s1, a1]
                          refine ⟨next, pc + 3, ρ, L, r, (h.1, x_p h.2 q1 (0, 0, c1.2.2.1, d')), env, kc, ks, Lc, r.map (x_in ρ), hc.set q1 (.inl (0, ys.take kd ++ ((xs.drop kp).take kn ++ ys.drop (kd + kn)))), outs, hn, x_ext.rf, Nat.le_refl _, ⟨hsat, hL, ⟨rfl, fun z hz => hst.2 z (by simp [hz])⟩, hh.set b2 ?_⟩, hk, fun _ z => z, fun Q hQ => x_W_c hf hk2 (st' := r.map (x_in ρ)) (hc' := hc.set q1 (.inl (0, ys.take kd ++ ((xs.drop kp).take kn ++ ys.drop (kd + kn))))) ?_ z5 (by rw [x_cs_ok]; exact z6) hQ⟩
                          · refine ⟨_, rfl, by rw [ev_cpl hl1 hl2]; exact f2, fun m u hm => ?_⟩
                            have hfin : ∀ z : Int32, m < ys.length → (ys.take kd ++ ((xs.drop kp).take kn ++ ys.drop (kd + kn))).getD m 0 = z → (ys.take kd ++ ((xs.drop kp).take kn ++ ys.drop (kd + kn)))[m]? = some z := by
                              intro z hm hz
                              have hm2 : m < (ys.take kd ++ ((xs.drop kp).take kn ++ ys.drop (kd + kn))).length := by rw [ev_cpl hl1 hl2]; exact hm
                              rw [List.getD_eq_getElem?_getD, List.getElem?_eq_getElem hm2] at hz
                              rw [List.getElem?_eq_getElem hm2]
                              exact congrArg some hz
                            rcases x_cy_ok kn hd' m u hm with ⟨g1, g2, g3⟩ | ⟨g1, g2⟩
                            · obtain ⟨i1, i2, i3⟩ := e3 _ u g3
                              refine ⟨i1, i2, hfin _ (by omega) ?_⟩
                              rw [ev_cpg hl1 hl2]
                              unfold va_cpy
                              rw [if_pos ⟨g1, g2⟩]
                              show xs.getD _ 0 = _
                              rw [List.getD_eq_getElem?_getD, i3]
                              rfl
                            · obtain ⟨i1, i2, i3⟩ := f3 _ u g2
                              refine ⟨i1, i2, hfin _ (List.getElem?_eq_some_iff.mp i3).1 ?_⟩
                              rw [ev_cpg hl1 hl2]
                              unfold va_cpy
                              rw [if_neg g1]
                              show ys.getD _ 0 = _
                              rw [List.getD_eq_getElem?_getD, i3]
                              rfl
                          · rw [hstc]
                            show (match hc[q0]?, hc[q1]? with
                              | some (.inl (0, xs)), some (.inl (0, ys)) =>
                                if ¬ js < 0 ∧ ¬ jd < 0 ∧ ¬ jn < 0 ∧ js.toNatClampNeg + jn.toNatClampNeg ≤ xs.length ∧ jd.toNatClampNeg + jn.toNatClampNeg ≤ ys.length then
                                  some (r.map (x_in ρ), hc.set q1 (.inl (0, ys.take jd.toNatClampNeg ++ ((xs.drop js.toNatClampNeg).take jn.toNatClampNeg ++ ys.drop (jd.toNatClampNeg + jn.toNatClampNeg)))))
                                else none
                              | _, _ => none) = _
                            rw [a3, b3]
                            show (if ¬ js < 0 ∧ ¬ jd < 0 ∧ ¬ jn < 0 ∧ js.toNatClampNeg + jn.toNatClampNeg ≤ xs.length ∧ jd.toNatClampNeg + jn.toNatClampNeg ≤ ys.length then
                                  some (r.map (x_in ρ), hc.set q1 (.inl (0, ys.take jd.toNatClampNeg ++ ((xs.drop js.toNatClampNeg).take jn.toNatClampNeg ++ ys.drop (jd.toNatClampNeg + jn.toNatClampNeg)))))
                                else none) = _
                            rw [n2, d2, s2, if_pos ⟨s3, d3, n3, hl1, hl2⟩]
          · cases hk
        · cases hk
      · cases hk
    · cases hk
  · cases hk
/-! new -/
def x_dv (ty : FieldType) : xv := match ty with
  | .long => (1, 0, 0)
  | .object _ => (4, 0, 0)
  | .array _ => (4, 0, 0)
  | _ => (0, 0, 0)
def x_okt (ty : FieldType) : Bool := match ty with
  | .int => true
  | .long => true
  | .boolean => true
  | .char => true
  | .object _ => true
  | .array _ => true
  | _ => false
theorem x_dv_ok {ty : FieldType} (h : x_okt ty = true) (ρ : Nat → Int) : defaultValue ty = x_in ρ (x_dv ty) ∧ (x_dv ty).2.1 = 0 := by
  cases ty <;> first | exact ⟨rfl, rfl⟩ | cases h
def x_df (a : Nat) : Option (Nat × List xv) := match vwCl[a]? with
  | some c => match ev_tys[a]? with
    | some ty => match (List.range c.2.2).all (fun k => x_okt (ty k)) with
      | true => some (c.2.2, (List.range c.2.2).map (fun k => x_dv (ty k)))
      | false => none
    | none => none
  | none => none
noncomputable def xo_new (a N : Nat) (dat : List xv) (mc ms : Nat) (next : xK) : xK := fun L st h env kc ks => match Nat.ble (kc + 1) mc && Nat.ble (ks + N) ms with
  | true => match x_a h.1 h.2 (2, a, 0, x_ch dat) with
    | some d => next L ((2, 0, Int.ofNat h.1) :: st) (h.1 + 1, d) env (kc + 1) (ks + N)
    | none => none
  | false => none
theorem xs_new {idx N : Nat} {dat : List xv} (hf : ev_f t pc = some (pp0, .new idx, a, b, pp, v)) (hdf : x_df a = some (N, dat)) (hn : x_S scx (rt, ini, mx, na, rc, fr, lo, mc, ms, t) (pc + 3) next) : x_S scx (rt, ini, mx, na, rc, fr, lo, mc, ms, t) pc (xo_new a N dat mc ms next) := by
  refine x_S_of fun L st h env kc ks outs hk ρ sc Lc stc hc hX hG => ?_
  obtain ⟨hsat, hL, hst, hh⟩ := hG
  unfold xo_new at hk
  unfold x_df at hdf
  split at hk
  · rename_i hb
    rw [Bool.and_eq_true] at hb
    split at hk
    · rename_i d hd
      split at hdf
      · rename_i c hc9
        split at hdf
        · rename_i ty hty
          split at hdf
          · rename_i hall
            cases hdf
            refine ⟨next, pc + 3, ρ, L, (2, 0, Int.ofNat h.1) :: st, (h.1 + 1, d), env, kc + 1, ks + c.2.2, Lc, .ref hc.length :: stc, hc ++ [.inr (.inr (a, (List.range c.2.2).map (fun k => defaultValue (ty k))))], outs, hn, x_ext.rf, Nat.le_refl _, ⟨hsat, hL, ⟨by rw [hst.1, hh.1]; rfl, List.forall_mem_cons.mpr ⟨Nat.zero_le _, hst.2⟩⟩, hh.push hd ?_⟩, hk, fun _ z => z, fun Q hQ => x_W_n hf (st' := .ref hc.length :: stc) (hc' := hc ++ [Sum.inr (Sum.inr (a, (List.range c.2.2).map (fun k => defaultValue (ty k))))]) (dc := 1) (ds := c.2.2) ?_ (Nat.le_of_ble_eq_true hb.1) (Nat.le_of_ble_eq_true hb.2) hQ⟩
            · refine ⟨_, rfl, fun j u hj => ?_⟩
              have hj := x_ch_g hj
              rw [List.getElem?_map] at hj
              cases hr : (List.range c.2.2)[j]? with
              | none => rw [hr] at hj; cases hj
              | some k =>
                rw [hr] at hj
                cases hj
                obtain ⟨g1, g2⟩ := x_dv_ok (List.all_eq_true.mp hall k (List.mem_of_getElem? hr)) ρ
                exact ⟨by show (x_dv (ty k)).2.1 ≤ _; rw [g2]; exact Nat.zero_le _, by rw [List.getElem?_map, hr, ← g1]; rfl⟩
            · show (match vwCl[a]?, ev_tys[a]? with
                | some c, some ty => some (Value.ref hc.length :: stc, hc ++ [Sum.inr (Sum.inr (a, (List.range c.2.2).map (fun k => defaultValue (ty k))))], 1, c.2.2)
                | _, _ => none) = _
              rw [hc9, hty]
          · cases hdf
        · cases hdf
      · cases hdf
    · cases hk
  · cases hk
def x_nai (t : Nat) : Option ArrayType := match t with
  | 0 => some .int
  | 1 => some .char
  | 2 => some .boolean
  | _ => none
noncomputable def xo_na (t : Nat) (mc ms : Nat) (next : xK) : xK := fun L st h env kc ks => match st with
  | n :: r => match x_ix n with
    | some k => match Nat.ble (kc + 1) mc && Nat.ble (ks + k) ms with
      | true => match x_a h.1 h.2 (0, t, k, x_ch (List.replicate k (0, 0, 0))) with
        | some d => next L ((2, 0, Int.ofNat h.1) :: r) (h.1 + 1, d) env (kc + 1) (ks + k)
        | none => none
      | false => none
    | none => none
  | [] => none
theorem x_ix_le {i : xv} {k : Nat} (h : x_ix i = some k) : k ≤ 100000 := by
  unfold x_ix at h
  split at h
  · split at h
    · rename_i hr
      cases h
      rw [Bool.and_eq_true] at hr
      have h1 := x_le_iff.mp hr.1
      have h2 := x_le_iff.mp hr.2
      omega
    · cases h
  · cases h
theorem x_zero_g {n : Nat} {ρ : Nat → Int} {k : Nat} : ∀ i v, x_g (x_ch (List.replicate k ((0, 0, 0) : xv))) i = some v → v.1 = 0 ∧ x_ok n v ∧ (List.replicate k (0 : Int32))[i]? = some (Int32.ofInt (x_vl ρ v)) := by
  intro i v h
  have h := x_ch_g h
  rw [List.getElem?_replicate] at h
  by_cases hi : i < k
  · rw [if_pos hi] at h
    cases h
    exact ⟨rfl, Nat.zero_le _, by rw [List.getElem?_replicate, if_pos hi]; rfl⟩
  · rw [if_neg hi] at h
    cases h
theorem xs_na {t0 : Nat} {at9 : ArrayType} (hf : ev_f t pc = some (pp0, .newarray at9, a, b, pp, v)) (ht : x_nai t0 = some at9) (hn : x_S scx (rt, ini, mx, na, rc, fr, lo, mc, ms, t) (pc + 2) next) : x_S scx (rt, ini, mx, na, rc, fr, lo, mc, ms, t) pc (xo_na t0 mc ms next) := by
  refine x_S_of fun L st h env kc ks outs hk ρ sc Lc stc hc hX hG => ?_
  obtain ⟨hsat, hL, hst, hh⟩ := hG
  unfold xo_na at hk
  split at hk
  · rename_i xn r
    split at hk
    · rename_i k hix
      split at hk
      · rename_i hb
        rw [Bool.and_eq_true] at hb
        split at hk
        · rename_i d hd
          obtain ⟨j, j1, j2, j3⟩ := x_ix_ok hix ρ
          have hk9 := x_ix_le hix
          refine ⟨next, pc + 2, ρ, L, (2, 0, Int.ofNat h.1) :: r, (h.1 + 1, d), env, kc + 1, ks + k, Lc, .ref hc.length :: r.map (x_in ρ), hc ++ [.inl (t0, List.replicate k 0)], outs, hn, x_ext.rf, Nat.le_refl _, ⟨hsat, hL, ⟨by rw [hh.1]; rfl, List.forall_mem_cons.mpr ⟨Nat.zero_le _, fun z hz => hst.2 z (by simp [hz])⟩⟩, hh.push hd ⟨_, rfl, List.length_replicate, x_zero_g⟩⟩, hk, fun _ z => z, fun Q hQ => x_W_n hf (st' := .ref hc.length :: r.map (x_in ρ)) (hc' := hc ++ [Sum.inl (t0, List.replicate k 0)]) (dc := 1) (ds := k) ?_ (Nat.le_of_ble_eq_true hb.1) (Nat.le_of_ble_eq_true hb.2) hQ⟩
          rw [hst.1, List.map_cons, j1]
          have hneg : ¬ (j < 0 ∨ 100000 < j.toNatClampNeg) := by
            rw [j2]
            rintro (z | z)
            · exact j3 z
            · omega
          match t0, ht with
          | 0, ht =>
            cases ht
            show (if j < 0 ∨ 100000 < j.toNatClampNeg then none else some (Value.ref hc.length :: r.map (x_in ρ), hc ++ [Sum.inl (0, List.replicate j.toNatClampNeg 0)], 1, j.toNatClampNeg)) = _
            rw [if_neg hneg, j2]
          | 1, ht =>
            cases ht
            show (if j < 0 ∨ 100000 < j.toNatClampNeg then none else some (Value.ref hc.length :: r.map (x_in ρ), hc ++ [Sum.inl (1, List.replicate j.toNatClampNeg 0)], 1, j.toNatClampNeg)) = _
            rw [if_neg hneg, j2]
          | 2, ht =>
            cases ht
            show (if j < 0 ∨ 100000 < j.toNatClampNeg then none else some (Value.ref hc.length :: r.map (x_in ρ), hc ++ [Sum.inl (2, List.replicate j.toNatClampNeg 0)], 1, j.toNatClampNeg)) = _
            rw [if_neg hneg, j2]
        · cases hk
      · cases hk
    · cases hk
  · cases hk
noncomputable def xo_mna (mc ms : Nat) (next : xK) : xK := fun L st h env kc ks => match st with
  | xk :: st1 => match st1 with
    | xn :: r => match x_ix xk with
      | none => none
      | some k => match x_ix xn with
        | none => none
        | some n => match Nat.ble k 1000 && (Nat.ble n 1000 && (Nat.ble (kc + (1 + n)) mc && Nat.ble (ks + (n + n * k)) ms)) with
          | false => none
          | true => match x_a h.1 h.2 (1, h.1 + 1, n, []) with
            | none => none
            | some d => match x_am (0, 0, k, x_ch (List.replicate k (0, 0, 0))) n (h.1 + 1, d) with
              | none => none
              | some h' => next L ((2, 0, Int.ofNat h.1) :: r) h' env (kc + (1 + n)) (ks + (n + n * k))
    | [] => none
  | [] => none
theorem xs_mna {idx : Nat} (hf : ev_f t pc = some (pp0, .multianewarray idx 2, a, b, pp, v)) (hn : x_S scx (rt, ini, mx, na, rc, fr, lo, mc, ms, t) (pc + 4) next) : x_S scx (rt, ini, mx, na, rc, fr, lo, mc, ms, t) pc (xo_mna mc ms next) := by
  refine x_S_of fun L st h env kc ks outs hk ρ sc Lc stc hc hX hG => ?_
  obtain ⟨hsat, hL, hst, hh⟩ := hG
  unfold xo_mna at hk
  split at hk
  · rename_i xk st1
    split at hk
    · rename_i xn r
      split at hk
      · cases hk
      · rename_i k hik
        split at hk
        · cases hk
        · rename_i n hin
          split at hk
          · cases hk
          · rename_i hb
            split at hk
            · cases hk
            · rename_i d hd
              split at hk
              · cases hk
              · rename_i h' hh'
                simp only [Bool.and_eq_true] at hb
                obtain ⟨b1, b2, b3, b4⟩ := hb
                have b1 := Nat.le_of_ble_eq_true b1
                have b2 := Nat.le_of_ble_eq_true b2
                obtain ⟨jk, k1, k2, k3⟩ := x_ix_ok hik ρ
                obtain ⟨jn, n1, n2, n3⟩ := x_ix_ok hin ρ
                have hp1 := hh.push (cc := .inr (.inl ((List.range n).map (fun i => h.1 + 1 + i)))) hd rfl
                have hp2 := x_am_ok (n := env.length) (ρ := ρ) (c := (0, 0, k, x_ch (List.replicate k (0, 0, 0)))) (cc := .inl (0, List.replicate k 0)) ⟨_, rfl, List.length_replicate, x_zero_g⟩ n hp1 hh'
                rw [List.append_assoc] at hp2
                refine ⟨next, pc + 4, ρ, L, (2, 0, Int.ofNat h.1) :: r, h', env, kc + (1 + n), ks + (n + n * k), Lc, .ref hc.length :: r.map (x_in ρ), _, outs, hn, x_ext.rf, Nat.le_refl _, ⟨hsat, hL, ⟨by rw [hh.1]; rfl, List.forall_mem_cons.mpr ⟨Nat.zero_le _, fun z hz => hst.2 z (by simp [hz])⟩⟩, hp2⟩, hk, fun _ z => z, fun Q hQ => x_W_n hf (st' := .ref hc.length :: r.map (x_in ρ)) (dc := 1 + n) (ds := n + n * k) ?_ (Nat.le_of_ble_eq_true b3) (Nat.le_of_ble_eq_true b4) hQ⟩
                rw [hst.1, List.map_cons, List.map_cons, k1, n1]
                show (if (jn < 0 ∨ 1000 < jn.toNatClampNeg) ∨ (jk < 0 ∨ 1000 < jk.toNatClampNeg) then none else
                  some (Value.ref hc.length :: r.map (x_in ρ), hc ++ (Sum.inr (Sum.inl ((List.range jn.toNatClampNeg).map (fun i => hc.length + 1 + i))) :: List.replicate jn.toNatClampNeg (Sum.inl (0, List.replicate jk.toNatClampNeg 0))), 1 + jn.toNatClampNeg, jn.toNatClampNeg + jn.toNatClampNeg * jk.toNatClampNeg)) = _
                rw [k2, n2, if_neg (by
                  rintro ((z | z) | (z | z))
                  · exact n3 z
                  · omega
                  · exact k3 z
                  · omega), hh.1]
                rfl
    · cases hk
  · cases hk
end XNE
