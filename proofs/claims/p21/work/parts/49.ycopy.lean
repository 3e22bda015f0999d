/-! arraycopy over the other heap; more numbers -/
noncomputable def y_cq (g : yQ) (md : yMd) (slo sm sp dlo dm dp : Nat) (n : Nat) : Bool := Nat.rec (motive := fun _ => Bool) true (fun k ih => match ih with
  | false => false
  | true => match y_hq g 0 slo (sp + k) 0 sm with
    | some e => y_wq g md 0 e dlo (dp + k) 0 dm
    | none => false) n
theorem y_cq_ok {g : yQ} {md : yMd} {slo sm sp dlo dm dp : Nat} : ∀ {n : Nat}, y_cq g md slo sm sp dlo dm dp n = true → ∀ k, k < n → ∃ e, y_hq g 0 slo (sp + k) 0 sm = some e ∧ y_wq g md 0 e dlo (dp + k) 0 dm = true := by
  intro n
  induction n with
  | zero => intro _ k hk; omega
  | succ n ih =>
    intro h k hk
    have h : (match y_cq g md slo sm sp dlo dm dp n with
      | false => false
      | true => match y_hq g 0 slo (sp + n) 0 sm with
        | some e => y_wq g md 0 e dlo (dp + n) 0 dm
        | none => false) = true := h
    cases hc : y_cq g md slo sm sp dlo dm dp n with
    | false => rw [hc] at h; cases h
    | true =>
      rw [hc] at h
      dsimp only at h
      by_cases hkn : k = n
      · subst hkn
        cases he : y_hq g 0 slo (sp + k) 0 sm with
        | none => rw [he] at h; cases h
        | some e => rw [he] at h; exact ⟨e, rfl, h⟩
      · exact ih hc k (by omega)
noncomputable def yo_cp (g : yQ) (fr lo : Nat) (next : yK) : yK := fun L st h env kc ks => match st with
  | n :: st1 => match st1 with
    | dp :: st2 => match st2 with
      | d :: st3 => match st3 with
        | sp :: st4 => match st4 with
          | s :: r => match x_ix n with
            | none => none
            | some kn => match x_ix dp with
              | none => none
              | some kd => match x_ix sp with
                | none => none
                | some kp => match y_bn env s with
                  | none => none
                  | some p0 => match y_bn env d with
                    | none => none
                    | some p1 => match Nat.beq s.1 2 && (Nat.beq d.1 2 && (Nat.ble 1 kn && (Nat.ble 1 fr && (Nat.ble (x_cs r + 18) lo && y_cq g h.1 p0.1 (p0.2 - p0.1) kp p1.1 (p1.2 - p1.1) kd kn)))) with
                      | false => none
                      | true => next L r (h.1, y_dr p1.1 p1.2 kd (kd + kn - 1) h.2.1, h.2.2) env kc ks
          | [] => none
        | [] => none
      | [] => none
    | [] => none
  | [] => none
section YCP
variable {h0 : yQ × ev_H} {scx : yX} {rt ini mx na rc fr lo mc ms : Nat} {t : ev_T} {pc pp0 a b pp : Nat} {i : Instr} {v : Value} {next : yK}
theorem ys_cp (hf : ev_f t pc = some (pp0, i, a, b, pp, v)) (hk2 : ev_k i b = some 2) (hn : y_S h0 scx (rt, ini, mx, na, rc, fr, lo, mc, ms, t) (pc + 3) next) : y_S h0 scx (rt, ini, mx, na, rc, fr, lo, mc, ms, t) pc (yo_cp h0.1 fr lo next) := by
  refine y_S_of fun L st h env kc ks outs hk ρ sc Lc stc hc hX hG => ?_
  obtain ⟨hsat, hL, hst, hin, hun, hca, hvn⟩ := hG
  unfold yo_cp at hk
  split at hk
  · rename_i xn st1
    split at hk
    · rename_i xdp st2
      split at hk
      · rename_i xd st3
        split at hk
        · rename_i xsp st4
          split at hk
          · rename_i xs9 r
            split at hk
            · cases hk
            · rename_i kn hkn
              split at hk
              · cases hk
              · rename_i kd hkd
                split at hk
                · cases hk
                · rename_i kp hkp
                  split at hk
                  · cases hk
                  · rename_i p0 hp0
                    split at hk
                    · cases hk
                    · rename_i p1 hp1
                      split at hk
                      · cases hk
                      · rename_i hq
                        obtain ⟨sl, su⟩ := p0
                        obtain ⟨dl, du⟩ := p1
                        simp only [Bool.and_eq_true] at hq
                        obtain ⟨z1, z2, z3, z5, z6, z7⟩ := hq
                        have z1 := Nat.eq_of_beq_eq_true z1
                        have z2 := Nat.eq_of_beq_eq_true z2
                        have z3 := Nat.le_of_ble_eq_true z3
                        have z5 := Nat.le_of_ble_eq_true z5
                        have z6 := Nat.le_of_ble_eq_true z6
                        obtain ⟨jn, n1, n2, n3⟩ := x_ix_ok hkn ρ
                        obtain ⟨jd, d1, d2, d3⟩ := x_ix_ok hkd ρ
                        obtain ⟨js, s1, s2, s3⟩ := x_ix_ok hkp ρ
                        obtain ⟨q0, a1, a2, a3, a4⟩ := y_bn_ok hp0 hsat
                        obtain ⟨q1, b1, b2, b3, b4⟩ := y_bn_ok hp1 hsat
                        have key := y_cq_ok z7
                        have src : ∀ k, k < kn → ∃ (xs : List Int32) (z : Int32) (e : Int × Int × Bool), hc[q0]? = some (.inl (0, xs)) ∧ xs[kp + k]? = some z ∧ x_s1 e z.toInt ∧ y_wq h0.1 h.1 0 e dl (kd + k) 0 (du - dl) = true := by
                          intro k hk9
                          obtain ⟨e, e1, e2⟩ := key k hk9
                          obtain ⟨xs, z, g1, g2, g3⟩ := y_hq_ok hin e1 q0 (kp + k) a2 (by omega) (Nat.le_refl _) (Nat.le_refl _)
                          exact ⟨xs, z, e, g1, g2, g3, e2⟩
                        obtain ⟨xs, -, -, hx0, -, -, -⟩ := src 0 (by omega)
                        have hxl : kp + kn ≤ xs.length := by
                          obtain ⟨xs', z, e, g1, g2, -, -⟩ := src (kn - 1) (by omega)
                          rw [hx0] at g1
                          cases g1
                          have := (List.getElem?_eq_some_iff.mp g2).1
                          omega
                        have dst : ∀ k, k < kn → ∀ e, y_wq h0.1 h.1 0 e dl (kd + k) 0 (du - dl) = true → ∃ (n : Nat) (d : List (List yF)) (ys : List Int32) (f : yF), x_g h0.1 q1 = some (0, 0, n, d) ∧ hc[q1]? = some (.inl (0, ys)) ∧ ys.length = n ∧ kd + k < n ∧ (∀ i f z, x_g d i = some f → ys[i]? = some z → x_s1 f.2 z.toInt) ∧ x_g d (kd + k) = some f ∧ y_le e f.2 = true ∧ y_cov h.1 q1 (kd + k) := by
                          intro k hk9 e he
                          exact y_wq_ok hin he q1 (kd + k) b2 (by omega) (Nat.le_refl _) (Nat.le_refl _)
                        obtain ⟨nd, dd, ys, hdg, hy0, hyl, hyr⟩ : ∃ (n : Nat) (d : List (List yF)) (ys : List Int32), x_g h0.1 q1 = some (0, 0, n, d) ∧ hc[q1]? = some (.inl (0, ys)) ∧ ys.length = n ∧ ∀ i f z, x_g d i = some f → ys[i]? = some z → x_s1 f.2 z.toInt := by
                          obtain ⟨_, _, e, _, _, _, g4⟩ := src 0 (by omega)
                          obtain ⟨n, d, ys, f, i1, i2, i3, i4, i5, i6, i7, i8⟩ := dst 0 (by omega) e g4
                          exact ⟨n, d, ys, i1, i2, i3, i5⟩
                        have hyl2 : kd + kn ≤ ys.length := by
                          obtain ⟨_, _, e, _, _, _, g4⟩ := src (kn - 1) (by omega)
                          obtain ⟨n, d, ys', f, i1, i2, i3, i4, -⟩ := dst (kn - 1) (by omega) e g4
                          rw [hdg] at i1
                          cases i1
                          omega
                        have hql := (List.getElem?_eq_some_iff.mp hy0).1
                        generalize hzs : ys.take kd ++ ((xs.drop kp).take kn ++ ys.drop (kd + kn)) = zs
                        have hzl : zs.length = ys.length := by rw [← hzs]; exact ev_cpl hxl hyl2
                        have hzg : ∀ j, zs.getD j 0 = va_cpy (fun i => xs.getD i 0) (fun i => ys.getD i 0) kp kd kn j := fun j => by rw [← hzs]; exact ev_cpg hxl hyl2
                        have hz? : ∀ j, j < ys.length → zs[j]? = some (zs.getD j 0) := fun j hj => by
                          rw [List.getD_eq_getElem?_getD, List.getElem?_eq_getElem (by omega)]
                          rfl
                        have hout : ∀ j, ¬ (kd ≤ j ∧ j < kd + kn) → zs[j]? = ys[j]? := fun j hj => by
                          by_cases hl : j < ys.length
                          · rw [hz? j hl, hzg]
                            unfold va_cpy
                            rw [if_neg hj]
                            show some (ys.getD j 0) = _
                            rw [List.getD_eq_getElem?_getD, List.getElem?_eq_getElem hl]
                            rfl
                          · rw [List.getElem?_eq_none (by omega), List.getElem?_eq_none (by omega)]
                        have hget : ∀ q' i', y_get (hc.set q1 (.inl (0, zs))) q' i' = if q' = q1 ∧ kd ≤ i' ∧ i' < kd + kn then y_get (hc.set q1 (.inl (0, zs))) q' i' else y_get hc q' i' := fun q' i' => by
                          by_cases hc9 : q' = q1 ∧ kd ≤ i' ∧ i' < kd + kn
                          · rw [if_pos hc9]
                          · rw [if_neg hc9]
                            unfold y_get
                            rw [List.getElem?_set]
                            by_cases e : q1 = q'
                            · subst e
                              rw [if_pos rfl, if_pos hql, hy0]
                              dsimp only
                              rw [hout i' (fun z => hc9 ⟨rfl, z⟩)]
                            · rw [if_neg e]
                        have hstc : stc = .int jn :: .int jd :: .ref q1 :: .int js :: .ref q0 :: r.map (x_in ρ) := by
                          rw [hst.1, List.map_cons, List.map_cons, List.map_cons, List.map_cons, List.map_cons, n1, d1, x_in2 z2, b1, s1, x_in2 z1, a1, Int.toNat_natCast, Int.toNat_natCast]
                        refine ⟨next, pc + 3, ρ, L, r, (h.1, y_dr dl du kd (kd + kn - 1) h.2.1, h.2.2), env, kc, ks, Lc, r.map (x_in ρ), hc.set q1 (.inl (0, zs)), outs, hn, x_ext.rf, Nat.le_refl _, ⟨hsat, hL, ⟨rfl, fun z hz => hst.2 z (by simp [hz])⟩, y_in_set hin (fun c hc' => ?_) hql, fun q' i' hnc => ?_, fun e he => ?_, hvn⟩, hk, fun _ z => z, fun Q hQ => x_W_c hf hk2 (st' := r.map (x_in ρ)) (hc' := hc.set q1 (.inl (0, zs))) ?_ z5 (by rw [x_cs_ok]; exact z6) hQ⟩
                        · rw [hdg] at hc'
                          cases hc'
                          refine ⟨zs, rfl, hzl.trans hyl, fun m f z hm hz => ?_⟩
                          by_cases hr : kd ≤ m ∧ m < kd + kn
                          · obtain ⟨xs', z', e, g1, g2, g3, g4⟩ := src (m - kd) (by omega)
                            rw [hx0] at g1
                            cases g1
                            obtain ⟨n, d, ys', f', i1, i2, i3, i4, i5, i6, i7, i8⟩ := dst (m - kd) (by omega) e g4
                            rw [hdg] at i1
                            cases i1
                            rw [show kd + (m - kd) = m by omega] at i6
                            have hm : x_g dd m = some f := hm
                            rw [i6] at hm
                            cases hm
                            rw [hz? m (by omega), hzg] at hz
                            unfold va_cpy at hz
                            rw [if_pos hr] at hz
                            have hz : some (xs.getD (kp + (m - kd)) 0) = some z := hz
                            rw [List.getD_eq_getElem?_getD, g2] at hz
                            cases hz
                            exact y_le_ok i7 g3
                          · rw [hout m hr] at hz
                            exact hyr m f z hm hz
                        · rw [hget, if_neg]
                          · exact hun q' i' hnc
                          · rintro ⟨rfl, w1, w2⟩
                            obtain ⟨_, _, e, _, _, _, g4⟩ := src (i' - kd) (by omega)
                            obtain ⟨n, d, ys', f', i1, i2, i3, i4, i5, i6, i7, i8⟩ := dst (i' - kd) (by omega) e g4
                            rw [show kd + (i' - kd) = i' by omega] at i8
                            exact hnc i8
                        · obtain ⟨m1, m2⟩ := y_dr_ok he
                          obtain ⟨k1, k2, k3⟩ := hca e m1
                          refine ⟨k1, k2, ?_⟩
                          rw [hget, if_neg]
                          · exact k3
                          · rintro ⟨w0, w1, w2⟩
                            exact m2 ⟨by omega, by omega, w1, by omega⟩
                        · rw [hstc]
                          show (match hc[q0]?, hc[q1]? with
                            | some (.inl (0, xs)), some (.inl (0, ys)) =>
                              if ¬ js < 0 ∧ ¬ jd < 0 ∧ ¬ jn < 0 ∧ js.toNatClampNeg + jn.toNatClampNeg ≤ xs.length ∧ jd.toNatClampNeg + jn.toNatClampNeg ≤ ys.length then
                                some (r.map (x_in ρ), hc.set q1 (.inl (0, ys.take jd.toNatClampNeg ++ ((xs.drop js.toNatClampNeg).take jn.toNatClampNeg ++ ys.drop (jd.toNatClampNeg + jn.toNatClampNeg)))))
                              else none
                            | _, _ => none) = _
                          rw [hx0, hy0]
                          show (if ¬ js < 0 ∧ ¬ jd < 0 ∧ ¬ jn < 0 ∧ js.toNatClampNeg + jn.toNatClampNeg ≤ xs.length ∧ jd.toNatClampNeg + jn.toNatClampNeg ≤ ys.length then
                                some (r.map (x_in ρ), hc.set q1 (.inl (0, ys.take jd.toNatClampNeg ++ ((xs.drop js.toNatClampNeg).take jn.toNatClampNeg ++ ys.drop (jd.toNatClampNeg + jn.toNatClampNeg)))))
                              else none) = _
                          rw [n2, d2, s2, if_pos ⟨s3, d3, n3, hxl, hyl2⟩, hzs]
          · cases hk
        · cases hk
      · cases hk
    · cases hk
  · cases hk
end YCP
/-! more numbers -/
noncomputable def yg_neg (env : xE) (a : xv) : Option (xv × xE) := match a.2.1 with
  | 0 => y_nrm env (0, 0, -a.2.2)
  | _ + 1 => match x_bd env a with
    | none => none
    | some p => some (x_nw 0 (y_fit (-p.2) (-p.1)) env)
theorem yg_neg_ok : x_g1 0 (ev_s .ineg .null) yg_neg := by
  intro env a p ρ hp ha hsat oa
  have hE : ∀ (x : Int32) (r : List Value), ev_s .ineg .null (.int x :: r) = some (.int (-x) :: r) := fun _ _ => rfl
  have fin : ((p.2 = env ∧ p.1.1 = 0 ∧ x_ok env.length p.1 ∧ Int32.ofInt (x_vl ρ p.1) = -Int32.ofInt (x_vl ρ a)) ∨ ∃ e, p = x_nw 0 e env ∧ x_s1 e (-Int32.ofInt (x_vl ρ a)).toInt) → ∃ ρ', x_ext env.length ρ ρ' ∧ env.length ≤ p.2.length ∧ x_sat ρ' p.2 ∧ x_ok p.2.length p.1 ∧ ∀ r, ev_s .ineg .null (x_in ρ a :: r) = some (x_in ρ' p.1 :: r) := by
    rintro (⟨h1, h2, h3, h4⟩ | ⟨e, h1, h2⟩)
    · exact ⟨ρ, x_ext.rf, by rw [h1]; exact Nat.le_refl _, by rw [h1]; exact hsat, by rw [h1]; exact h3, fun r => by rw [x_in0 ha, hE, x_in0 h2, h4]⟩
    · subst h1
      obtain ⟨ρ', g1, g2, g3, g4, g5⟩ := x_nwi hsat h2
      exact ⟨ρ', g1, g2, g3, g4, fun r => by rw [x_in0 ha, hE, g5]⟩
  apply fin
  unfold yg_neg at hp
  split at hp
  · rename_i h9
    refine y_nrm_ok hp rfl (Nat.zero_le _) ρ ?_
    rw [x_vl0 h9, ← Int32.ofInt_neg]
    rfl
  · split at hp
    · cases hp
    · rename_i q hq
      cases hp
      obtain ⟨l, u⟩ := q
      have b1 := x_bd_ok hsat hq
      refine Or.inr ⟨_, rfl, ?_⟩
      rw [← Int32.ofInt_neg]
      exact y_fit_ok (by dsimp only; omega) (by dsimp only; omega)
/-- a remainder, by what is below 0 too -/
noncomputable def yg_rem (env : xE) (a b : xv) : Option (xv × xE) := match x_wi (-2147483648) (-1) env b with
  | true => some (x_nw 0 x_fi env)
  | false => xg_rem env a b
theorem yg_rem_ok : x_g2 0 0 (ev_s .irem .null) yg_rem := by
  intro env a b p ρ hp ha hb hsat oa ob
  unfold yg_rem at hp
  split at hp
  · rename_i hw
    cases hp
    obtain ⟨w1, w2⟩ := x_wi_ok hsat hw
    have hne : ¬ Int32.ofInt (x_vl ρ b) = 0 := fun h => by
      have := congrArg Int32.toInt h
      rw [x_i32 w1 (by omega)] at this
      have e : (0 : Int32).toInt = 0 := by decide
      omega
    obtain ⟨ρ', g1, g2, g3, g4, g5⟩ := x_nwi hsat (x_fi_ok (Int32.ofInt (x_vl ρ a) - Int32.ofInt (x_vl ρ a) / Int32.ofInt (x_vl ρ b) * Int32.ofInt (x_vl ρ b)))
    refine ⟨ρ', g1, g2, g3, g4, fun r => ?_⟩
    rw [x_in0 ha, x_in0 hb, g5]
    show (if Int32.ofInt (x_vl ρ b) = 0 then none else some (Value.int (Int32.ofInt (x_vl ρ a) - Int32.ofInt (x_vl ρ a) / Int32.ofInt (x_vl ρ b) * Int32.ofInt (x_vl ρ b)) :: r)) = _
    rw [if_neg hne]
  · exact xg_rem_ok env a b p ρ hp ha hb hsat oa ob
