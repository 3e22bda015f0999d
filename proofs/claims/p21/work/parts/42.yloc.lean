/-! as its elder, over the other heap; by program -/
section YYY
variable {h0 : yQ × ev_H}
section XLO
variable {scx : yX} {rt ini mx na rc fr lo mc ms : Nat} {t : ev_T} {pc pp0 a b pp : Nat} {i : Instr} {v : Value} {next : yK}
/-- a step on locals and stack, no new symbol -/
theorem y_S_l (hf : ev_f t pc = some (pp0, i, a, b, pp, v)) (hn : y_S h0 scx (rt, ini, mx, na, rc, fr, lo, mc, ms, t) (pc + ev_len i) next) {K : yK} (hK : ∀ L st h env kc ks outs, K L st h env kc ks = some outs → ∀ ρ Lc stc, x_sat ρ env → x_rL env.length ρ L Lc → x_rS env.length ρ st stc →
    ∃ (L' st' : List xv) (Lc' : ev_L) (stc' : List Value), x_rL env.length ρ L' Lc' ∧ x_rS env.length ρ st' stc' ∧ ev_l i mx Lc stc = some (Lc', stc') ∧ next L' st' h env kc ks = some outs) : y_S h0 scx (rt, ini, mx, na, rc, fr, lo, mc, ms, t) pc K := by
  refine y_S_of fun L st h env kc ks outs hk ρ sc Lc stc hc hX hG => ?_
  obtain ⟨L', st', Lc', stc', g1, g2, g3, g4⟩ := hK L st h env kc ks outs hk ρ Lc stc hG.1 hG.2.1 hG.2.2.1
  exact ⟨next, _, ρ, L', st', h, env, kc, ks, Lc', stc', hc, outs, hn, x_ext.rf, Nat.le_refl _, ⟨hG.1, g1, g2, hG.2.2.2⟩, g4, fun _ h => h, fun Q hQ => x_W_l hf g3 hQ⟩
noncomputable def yo_ld (kd k : Nat) (next : yK) : yK := fun L st h env kc ks => match x_n L k with
  | some v => match Nat.beq v.1 kd with
    | true => next L (x_kv env v :: st) h env kc ks
    | false => none
  | none => none
noncomputable def yo_lda (k : Nat) (next : yK) : yK := fun L st h env kc ks => match x_n L k with
  | some v => match Nat.beq v.1 2 || Nat.beq v.1 3 with
    | true => next L (v :: st) h env kc ks
    | false => none
  | none => none
theorem ys_ld (hf : ev_f t pc = some (pp0, i, a, b, pp, v)) (hn : y_S h0 scx (rt, ini, mx, na, rc, fr, lo, mc, ms, t) (pc + ev_len i) next) {kd k : Nat} (h4 : kd < 4) (hs : ∀ ρ (x : xv) Lc stc, x.1 = kd → ev_lk Lc k = some (x_in ρ x) → ev_l i mx Lc stc = some (Lc, x_in ρ x :: stc)) : y_S h0 scx (rt, ini, mx, na, rc, fr, lo, mc, ms, t) pc (yo_ld kd k next) :=
  y_S_l hf hn fun L st h env kc ks outs hk ρ Lc stc hsat hL hst => by
    unfold yo_ld at hk
    split at hk
    · rename_i x hx
      split at hk
      · rename_i hq
        rw [x_n_eq] at hx
        have hq := Nat.eq_of_beq_eq_true hq
        obtain ⟨g1, g2⟩ := hL k x hx (by rw [hq]; exact h4)
        obtain ⟨k1, k2, k3, k4⟩ := x_kv_ok (v := x) hsat
        exact ⟨L, x_kv env x :: st, Lc, x_in ρ x :: stc, hL, ⟨by rw [hst.1, List.map_cons, k2], List.forall_mem_cons.mpr ⟨k4 _ g1, hst.2⟩⟩, hs ρ x Lc stc hq g2, hk⟩
      · cases hk
    · cases hk
theorem ys_lda (hf : ev_f t pc = some (pp0, i, a, b, pp, v)) (hn : y_S h0 scx (rt, ini, mx, na, rc, fr, lo, mc, ms, t) (pc + ev_len i) next) {k : Nat} (hs : ∀ ρ (x : xv) Lc stc, (x.1 = 2 ∨ x.1 = 3) → ev_lk Lc k = some (x_in ρ x) → ev_l i mx Lc stc = some (Lc, x_in ρ x :: stc)) : y_S h0 scx (rt, ini, mx, na, rc, fr, lo, mc, ms, t) pc (yo_lda k next) :=
  y_S_l hf hn fun L st h env kc ks outs hk ρ Lc stc hsat hL hst => by
    unfold yo_lda at hk
    split at hk
    · rename_i x hx
      split at hk
      · rename_i hq
        rw [x_n_eq] at hx
        have hq : x.1 = 2 ∨ x.1 = 3 := by
          rcases (Bool.or_eq_true _ _).mp hq with h | h
          · exact Or.inl (Nat.eq_of_beq_eq_true h)
          · exact Or.inr (Nat.eq_of_beq_eq_true h)
        obtain ⟨g1, g2⟩ := hL k x hx (by rcases hq with h | h <;> rw [h] <;> decide)
        exact ⟨L, x :: st, Lc, x_in ρ x :: stc, hL, ⟨by rw [hst.1]; rfl, List.forall_mem_cons.mpr ⟨g1, hst.2⟩⟩, hs ρ x Lc stc hq g2, hk⟩
      · cases hk
    · cases hk
noncomputable def yo_st (kd k mx : Nat) (next : yK) : yK := fun L st h env kc ks => match st with
  | v :: r => match Nat.beq v.1 kd && Nat.ble (k + 1) mx with
    | true => next (x_stl L k v) r h env kc ks
    | false => none
  | [] => none
theorem ys_st (hf : ev_f t pc = some (pp0, i, a, b, pp, v)) (hn : y_S h0 scx (rt, ini, mx, na, rc, fr, lo, mc, ms, t) (pc + ev_len i) next) {kd k : Nat} (hs : ∀ ρ (x : xv) Lc stc, x.1 = kd → k < mx → ev_l i mx Lc (x_in ρ x :: stc) = some (ev_s1 Lc k (x_in ρ x), stc)) : y_S h0 scx (rt, ini, mx, na, rc, fr, lo, mc, ms, t) pc (yo_st kd k mx next) :=
  y_S_l hf hn fun L st h env kc ks outs hk ρ Lc stc hsat hL hst => by
    unfold yo_st at hk
    split at hk
    · rename_i x r
      split at hk
      · rename_i hq
        rw [Bool.and_eq_true] at hq
        refine ⟨x_stl L k x, r, ev_s1 Lc k (x_in ρ x), r.map (x_in ρ), x_rL_s1 hL (hst.2 x (by simp)), ⟨rfl, fun z hz => hst.2 z (by simp [hz])⟩, ?_, hk⟩
        rw [hst.1, List.map_cons, hs ρ x Lc _ (Nat.eq_of_beq_eq_true hq.1) (Nat.le_of_ble_eq_true hq.2)]
      · cases hk
    · cases hk
noncomputable def yo_stL (k mx : Nat) (next : yK) : yK := fun L st h env kc ks => match st with
  | v :: r => match Nat.beq v.1 1 && Nat.ble (k + 2) mx with
    | true => next (x_u (9, 0, 0) (x_stl L k v) (k + 1)) r h env kc ks
    | false => none
  | [] => none
theorem ys_stL (hf : ev_f t pc = some (pp0, i, a, b, pp, v)) (hn : y_S h0 scx (rt, ini, mx, na, rc, fr, lo, mc, ms, t) (pc + ev_len i) next) {k : Nat} (hs : ∀ ρ (x : xv) Lc stc, x.1 = 1 → k + 1 < mx → ev_l i mx Lc (x_in ρ x :: stc) = some (ev_s2 Lc k (x_in ρ x), stc)) : y_S h0 scx (rt, ini, mx, na, rc, fr, lo, mc, ms, t) pc (yo_stL k mx next) :=
  y_S_l hf hn fun L st h env kc ks outs hk ρ Lc stc hsat hL hst => by
    unfold yo_stL at hk
    split at hk
    · rename_i x r
      split at hk
      · rename_i hq
        rw [Bool.and_eq_true] at hq
        refine ⟨_, r, ev_s2 Lc k (x_in ρ x), r.map (x_in ρ), x_rL_s2 hL (hst.2 x (by simp)), ⟨rfl, fun z hz => hst.2 z (by simp [hz])⟩, ?_, hk⟩
        rw [hst.1, List.map_cons, hs ρ x Lc _ (Nat.eq_of_beq_eq_true hq.1) (Nat.le_of_ble_eq_true hq.2)]
      · cases hk
    · cases hk
noncomputable def yo_inc (k mx : Nat) (d : Int) (next : yK) : yK := fun L st h env kc ks => match x_n L k with
  | some v => match Nat.beq v.1 0 && Nat.ble (k + 1) mx with
    | true => next (x_stl L k (0, v.2.1, v.2.2 + d)) st h env kc ks
    | false => none
  | none => none
theorem ys_inc {k : Nat} {d : Int} (hf : ev_f t pc = some (pp0, .iinc k d, a, b, pp, v)) (hn : y_S h0 scx (rt, ini, mx, na, rc, fr, lo, mc, ms, t) (pc + 3) next) : y_S h0 scx (rt, ini, mx, na, rc, fr, lo, mc, ms, t) pc (yo_inc k mx d next) :=
  y_S_l hf hn fun L st h env kc ks outs hk ρ Lc stc hsat hL hst => by
    unfold yo_inc at hk
    split at hk
    · rename_i x hx
      split at hk
      · rename_i hq
        rw [Bool.and_eq_true] at hq
        rw [x_n_eq] at hx
        have q1 := Nat.eq_of_beq_eq_true hq.1
        have q2 : k < mx := Nat.le_of_ble_eq_true hq.2
        obtain ⟨g1, g2⟩ := hL k x hx (by rw [q1]; decide)
        refine ⟨_, st, _, stc, x_rL_s1 (v := (0, x.2.1, x.2.2 + d)) hL g1, hst, ?_, hk⟩
        show (match ev_lk Lc k with
          | some (.int z) => if k < mx then some (ev_s1 Lc k (.int (z + Int32.ofInt d)), stc) else none
          | _ => none) = _
        rw [g2, x_in0 q1]
        dsimp only
        rw [if_pos q2, x_in0 rfl, ← Int32.ofInt_add]
        congr 5
        obtain ⟨kx, sx, ox⟩ := x
        cases sx with
        | zero => rfl
        | succ sx => show ρ sx + ox + d = ρ sx + (ox + d); omega
      · cases hk
    · cases hk
end XLO
def y_fk (o1 : Option xE) (f1 : xE → yR) (o2 : Option xE) (f2 : xE → yR) : yR := match o1 with
  | none => match o2 with
    | none => some []
    | some e2 => f2 e2
  | some e1 => match o2 with
    | none => f1 e1
    | some e2 => match f1 e1 with
      | none => none
      | some l1 => match f2 e2 with
        | none => none
        | some l2 => some (l1 ++ l2)
theorem y_fk_1 {o1 o2 : Option xE} {f1 f2 : xE → yR} {outs : List yo} (h : y_fk o1 f1 o2 f2 = some outs) {e : xE} (he : o1 = some e) : ∃ l, f1 e = some l ∧ ∀ o ∈ l, o ∈ outs := by
  subst he
  unfold y_fk at h
  dsimp only at h
  split at h
  · exact ⟨outs, h, fun _ z => z⟩
  · split at h
    · cases h
    · rename_i l1 h1
      split at h
      · cases h
      · cases h
        exact ⟨l1, h1, fun o z => List.mem_append_left _ z⟩
theorem y_fk_2 {o1 o2 : Option xE} {f1 f2 : xE → yR} {outs : List yo} (h : y_fk o1 f1 o2 f2 = some outs) {e : xE} (he : o2 = some e) : ∃ l, f2 e = some l ∧ ∀ o ∈ l, o ∈ outs := by
  subst he
  unfold y_fk at h
  dsimp only at h
  split at h
  · exact ⟨outs, h, fun _ z => z⟩
  · split at h
    · cases h
    · split at h
      · cases h
      · rename_i l2 h2
        cases h
        exact ⟨l2, h2, fun o z => List.mem_append_right _ z⟩
/-- three roads of a comparison of longs -/
noncomputable def yo_lcmp (next : yK) : yK := fun L st h env kc ks => match st with
  | b :: st' => match st' with
    | a :: r => match Nat.beq b.1 1 && (Nat.beq a.1 1 && (x_wi (-9223372036854775808) 9223372036854775807 env a && x_wi (-9223372036854775808) 9223372036854775807 env b)) with
      | true => y_fk (x_rl 1 env a b) (fun e => next L ((0, 0, -1) :: r) h e kc ks) (x_rl 0 env b a) (fun e => y_fk (x_rl 1 e b a) (fun e => next L ((0, 0, 1) :: r) h e kc ks) (x_re e a b) (fun e => next L ((0, 0, 0) :: r) h e kc ks))
      | false => none
    | [] => none
  | [] => none
section XLC
variable {scx : yX} {rt ini mx na rc fr lo mc ms : Nat} {t : ev_T} {pc pp0 a b pp : Nat} {i : Instr} {v : Value} {next : yK}
theorem ys_lcmp (hf : ev_f t pc = some (pp0, .lcmp, a, b, pp, v)) (hn : y_S h0 scx (rt, ini, mx, na, rc, fr, lo, mc, ms, t) (pc + 1) next) : y_S h0 scx (rt, ini, mx, na, rc, fr, lo, mc, ms, t) pc (yo_lcmp next) :=
  y_S_s hf hn fun L st h env kc ks outs hk ρ stc hsat hst => by
    unfold yo_lcmp at hk
    split at hk
    · rename_i y st'
      split at hk
      · rename_i x r
        split at hk
        · rename_i hq
          simp only [Bool.and_eq_true] at hq
          obtain ⟨q1, q2, q3, q4⟩ := hq
          have q1 := Nat.eq_of_beq_eq_true q1
          have q2 := Nat.eq_of_beq_eq_true q2
          obtain ⟨w1, w2⟩ := x_wi_ok hsat q3
          obtain ⟨w3, w4⟩ := x_wi_ok hsat q4
          have ex := x_i64 w1 w2
          have ey := x_i64 w3 w4
          have hr : ∀ z ∈ r, x_ok env.length z := fun z hz => hst.2 z (by simp [hz])
          have fin : ∀ (env' : xE) (k : Int) (z : Int32) (l : List yo), Int32.ofInt k = z → x_sat ρ env' → env'.length = env.length → lg_cmp (Int64.ofInt (x_vl ρ x)) (Int64.ofInt (x_vl ρ y)) = z → next L ((0, 0, k) :: r) h env' kc ks = some l → (∀ o ∈ l, o ∈ outs) → ∃ (ρ' : Nat → Int) (st' : List xv) (env' : xE) (stc' : List Value) (outs' : List yo), x_ext env.length ρ ρ' ∧ env.length ≤ env'.length ∧ x_sat ρ' env' ∧ x_rS env'.length ρ' st' stc' ∧ ev_s .lcmp v stc = some stc' ∧ next L st' h env' kc ks = some outs' ∧ ∀ o ∈ outs', o ∈ outs := by
            intro env' k z l hkz hs' hl' hcmp hnx hm
            refine ⟨ρ, (0, 0, k) :: r, env', .int z :: r.map (x_in ρ), l, x_ext.rf, by rw [hl']; exact Nat.le_refl _, hs', ⟨by rw [List.map_cons, x_in0 rfl, ← hkz]; rfl, List.forall_mem_cons.mpr ⟨Nat.zero_le _, fun z hz => by rw [hl']; exact hr z hz⟩⟩, ?_, hnx, hm⟩
            rw [hst.1, List.map_cons, List.map_cons, x_in1 q1, x_in1 q2]
            exact x_lc hcmp _
          by_cases h1 : x_vl ρ x < x_vl ρ y
          · obtain ⟨e1, g1, g2, g3⟩ := x_rl_ok (k := 1) (a := x) (b := y) hsat (by omega)
            obtain ⟨l, l1, l2⟩ := y_fk_1 hk g1
            refine fin e1 (-1) (-1) l (by decide) g2 g3 ?_ l1 l2
            unfold lg_cmp
            rw [if_neg (fun z => by have z := Int64.lt_iff_toInt_lt.mp z; omega), if_neg (fun z => by have z := congrArg Int64.toInt z; omega)]
          · obtain ⟨e1, g1, g2, g3⟩ := x_rl_ok (k := 0) (a := y) (b := x) hsat (by omega)
            obtain ⟨l, l1, l2⟩ := y_fk_2 hk g1
            by_cases h2 : x_vl ρ y < x_vl ρ x
            · obtain ⟨e2, i1, i2, i3⟩ := x_rl_ok (k := 1) (a := y) (b := x) g2 (by omega)
              obtain ⟨l', j1, j2⟩ := y_fk_1 l1 i1
              refine fin e2 1 1 l' (by decide) i2 (i3.trans g3) ?_ j1 (fun o z => l2 o (j2 o z))
              unfold lg_cmp
              rw [if_pos (show Int64.ofInt (x_vl ρ y) < Int64.ofInt (x_vl ρ x) from Int64.lt_iff_toInt_lt.mpr (by omega))]
            · obtain ⟨e2, i1, i2, i3⟩ := x_re_ok (a := x) (b := y) g2 (by omega)
              obtain ⟨l', j1, j2⟩ := y_fk_2 l1 i1
              refine fin e2 0 0 l' (by decide) i2 (i3.trans g3) ?_ j1 (fun o z => l2 o (j2 o z))
              unfold lg_cmp
              rw [if_neg (fun z => by have z := Int64.lt_iff_toInt_lt.mp z; omega), if_pos (by rw [show x_vl ρ x = x_vl ρ y by omega])]
        · cases hk
      · cases hk
    · cases hk
end XLC

end YYY
