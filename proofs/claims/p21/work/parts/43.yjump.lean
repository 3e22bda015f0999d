/-! as its elder, over the other heap; by program -/
section YYY
variable {h0 : yQ × ev_H}
/-- where a comparison of a and b leads -/
noncomputable def y_br (c : ClassFile.Cond) (yes no : yK) (a b : xv) (L r : List xv) (h : yH) (env : xE) (kc ks : Nat) : yR := match a.2.1 + b.2.1 with
  | 0 => match x_rg a.2.2 && x_rg b.2.2 with
    | true => match x_cb c a.2.2 b.2.2 with
      | true => yes L r h env kc ks
      | false => no L r h env kc ks
    | false => none
  | _ + 1 => match x_wi (-2147483648) 2147483647 env a && x_wi (-2147483648) 2147483647 env b with
    | true => y_fk (x_ct c env a b) (fun e => yes L r h e kc ks) (x_cf c env a b) (fun e => no L r h e kc ks)
    | false => none
theorem y_br_ok {c : ClassFile.Cond} {yes no : yK} {a b : xv} {L r : List xv} {h : yH} {env : xE} {kc ks : Nat} {outs : List yo} (hb : y_br c yes no a b L r h env kc ks = some outs) {ρ : Nat → Int} (hsat : x_sat ρ env) :
    (-2147483648 ≤ x_vl ρ a ∧ x_vl ρ a ≤ 2147483647) ∧ (-2147483648 ≤ x_vl ρ b ∧ x_vl ρ b ≤ 2147483647) ∧ ((x_cp c (x_vl ρ a) (x_vl ρ b) ∧ ∃ env' l, x_sat ρ env' ∧ env'.length = env.length ∧ yes L r h env' kc ks = some l ∧ ∀ o ∈ l, o ∈ outs) ∨ (¬ x_cp c (x_vl ρ a) (x_vl ρ b) ∧ ∃ env' l, x_sat ρ env' ∧ env'.length = env.length ∧ no L r h env' kc ks = some l ∧ ∀ o ∈ l, o ∈ outs)) := by
  unfold y_br at hb
  split at hb
  · rename_i hz
    have za : a.2.1 = 0 := by omega
    have zb : b.2.1 = 0 := by omega
    rw [x_vl0 za, x_vl0 zb]
    split at hb
    · rename_i hr
      unfold x_rg at hr
      simp only [Bool.and_eq_true] at hr
      refine ⟨⟨x_le_iff.mp hr.1.1, x_le_iff.mp hr.1.2⟩, ⟨x_le_iff.mp hr.2.1, x_le_iff.mp hr.2.2⟩, ?_⟩
      split at hb
      · rename_i hc
        exact Or.inl ⟨x_cb_iff.mp hc, env, outs, hsat, rfl, hb, fun _ z => z⟩
      · rename_i hc
        exact Or.inr ⟨fun z => (by rw [x_cb_iff.mpr z] at hc; cases hc), env, outs, hsat, rfl, hb, fun _ z => z⟩
    · cases hb
  · split at hb
    · rename_i hr
      rw [Bool.and_eq_true] at hr
      refine ⟨x_wi_ok hsat hr.1, x_wi_ok hsat hr.2, ?_⟩
      by_cases hc : x_cp c (x_vl ρ a) (x_vl ρ b)
      · obtain ⟨e1, g1, g2, g3⟩ := x_ct_ok hsat hc
        obtain ⟨l, l1, l2⟩ := y_fk_1 hb g1
        exact Or.inl ⟨hc, e1, l, g2, g3, l1, l2⟩
      · obtain ⟨e1, g1, g2, g3⟩ := x_cf_ok hsat hc
        obtain ⟨l, l1, l2⟩ := y_fk_2 hb g1
        exact Or.inr ⟨hc, e1, l, g2, g3, l1, l2⟩
    · cases hb
noncomputable def yo_ic (c : ClassFile.Cond) (yes no : yK) : yK := fun L st h env kc ks => match st with
  | b :: st' => match st' with
    | a :: r => match Nat.beq b.1 0 && Nat.beq a.1 0 with
      | true => y_br c yes no a b L r h env kc ks
      | false => none
    | [] => none
  | [] => none
noncomputable def yo_if (c : ClassFile.Cond) (yes no : yK) : yK := fun L st h env kc ks => match st with
  | a :: r => match Nat.beq a.1 0 with
    | true => y_br c yes no a (0, 0, 0) L r h env kc ks
    | false => none
  | [] => none
section XJU
variable {scx : yX} {rt ini mx na rc fr lo mc ms : Nat} {t : ev_T} {pc pp0 a b pp : Nat} {i : Instr} {v : Value} {next : yK}
theorem ys_ic {c : ClassFile.Cond} {off : Int} {yes no : yK} (hf : ev_f t pc = some (pp0, .if_icmp c off, a, b, pp, v)) (hy : y_S h0 scx (rt, ini, mx, na, rc, fr, lo, mc, ms, t) a yes) (hn : y_S h0 scx (rt, ini, mx, na, rc, fr, lo, mc, ms, t) (pc + 3) no) : y_S h0 scx (rt, ini, mx, na, rc, fr, lo, mc, ms, t) pc (yo_ic c yes no) := by
  refine y_S_of fun L st h env kc ks outs hk ρ sc Lc stc hc hX hG => ?_
  unfold yo_ic at hk
  split at hk
  · rename_i y st'
    split at hk
    · rename_i x r
      split at hk
      · rename_i hq
        rw [Bool.and_eq_true] at hq
        obtain ⟨hsat, hL, hst, hh⟩ := hG
        obtain ⟨⟨x1, x2⟩, ⟨y1, y2⟩, hrd⟩ := y_br_ok hk hsat
        have hrr : x_rS env.length ρ r (r.map (x_in ρ)) := ⟨rfl, fun z hz => hst.2 z (by simp [hz])⟩
        have hstc : stc = .int (Int32.ofInt (x_vl ρ y)) :: .int (Int32.ofInt (x_vl ρ x)) :: r.map (x_in ρ) := by
          rw [hst.1, List.map_cons, List.map_cons, x_in0 (Nat.eq_of_beq_eq_true hq.1), x_in0 (Nat.eq_of_beq_eq_true hq.2)]
        obtain ⟨j1, j2⟩ := x_icj (c := c) (off := off) (pc := pc) (a := a) (r := r.map (x_in ρ)) x1 x2 y1 y2
        rcases hrd with ⟨hcp, env', l, e1, e2, e3, e4⟩ | ⟨hcp, env', l, e1, e2, e3, e4⟩
        · exact ⟨yes, a, ρ, L, r, h, env', kc, ks, Lc, r.map (x_in ρ), hc, l, hy, x_ext.rf, Nat.le_of_eq e2.symm, ⟨e1, by rw [e2]; exact hL, by rw [e2]; exact hrr, by rw [e2]; exact hh⟩, e3, e4, fun Q hQ => x_W_j hf (by rw [hstc]; exact j1 hcp) hQ⟩
        · exact ⟨no, pc + 3, ρ, L, r, h, env', kc, ks, Lc, r.map (x_in ρ), hc, l, hn, x_ext.rf, Nat.le_of_eq e2.symm, ⟨e1, by rw [e2]; exact hL, by rw [e2]; exact hrr, by rw [e2]; exact hh⟩, e3, e4, fun Q hQ => x_W_j hf (by rw [hstc]; exact j2 hcp) hQ⟩
      · cases hk
    · cases hk
  · cases hk
theorem ys_if {c : ClassFile.Cond} {off : Int} {yes no : yK} (hf : ev_f t pc = some (pp0, .ifCond c off, a, b, pp, v)) (hy : y_S h0 scx (rt, ini, mx, na, rc, fr, lo, mc, ms, t) a yes) (hn : y_S h0 scx (rt, ini, mx, na, rc, fr, lo, mc, ms, t) (pc + 3) no) : y_S h0 scx (rt, ini, mx, na, rc, fr, lo, mc, ms, t) pc (yo_if c yes no) := by
  refine y_S_of fun L st h env kc ks outs hk ρ sc Lc stc hc hX hG => ?_
  unfold yo_if at hk
  split at hk
  · rename_i x r
    split at hk
    · rename_i hq
      obtain ⟨hsat, hL, hst, hh⟩ := hG
      obtain ⟨⟨x1, x2⟩, ⟨y1, y2⟩, hrd⟩ := y_br_ok hk hsat
      have hrr : x_rS env.length ρ r (r.map (x_in ρ)) := ⟨rfl, fun z hz => hst.2 z (by simp [hz])⟩
      have hstc : stc = .int (Int32.ofInt (x_vl ρ x)) :: r.map (x_in ρ) := by
        rw [hst.1, List.map_cons, x_in0 (Nat.eq_of_beq_eq_true hq)]
      obtain ⟨j1, j2⟩ := x_icj (c := c) (off := off) (pc := pc) (a := a) (r := r.map (x_in ρ)) x1 x2 y1 y2
      have e0 : Int32.ofInt (x_vl ρ ((0, 0, 0) : xv)) = 0 := rfl
      rw [e0] at j1 j2
      rw [← x_ifj] at j1 j2
      rcases hrd with ⟨hcp, env', l, e1, e2, e3, e4⟩ | ⟨hcp, env', l, e1, e2, e3, e4⟩
      · exact ⟨yes, a, ρ, L, r, h, env', kc, ks, Lc, r.map (x_in ρ), hc, l, hy, x_ext.rf, Nat.le_of_eq e2.symm, ⟨e1, by rw [e2]; exact hL, by rw [e2]; exact hrr, by rw [e2]; exact hh⟩, e3, e4, fun Q hQ => x_W_j hf (by rw [hstc]; exact j1 hcp) hQ⟩
      · exact ⟨no, pc + 3, ρ, L, r, h, env', kc, ks, Lc, r.map (x_in ρ), hc, l, hn, x_ext.rf, Nat.le_of_eq e2.symm, ⟨e1, by rw [e2]; exact hL, by rw [e2]; exact hrr, by rw [e2]; exact hh⟩, e3, e4, fun Q hQ => x_W_j hf (by rw [hstc]; exact j2 hcp) hQ⟩
    · cases hk
  · cases hk
theorem ys_goto {off : Int} (hf : ev_f t pc = some (pp0, .goto off, a, b, pp, v)) (hn : y_S h0 scx (rt, ini, mx, na, rc, fr, lo, mc, ms, t) a next) : y_S h0 scx (rt, ini, mx, na, rc, fr, lo, mc, ms, t) pc next := by
  refine y_S_of fun L st h env kc ks outs hk ρ sc Lc stc hc hX hG => ?_
  exact ⟨next, a, ρ, L, st, h, env, kc, ks, Lc, stc, hc, outs, hn, x_ext.rf, Nat.le_refl _, hG, hk, fun _ z => z, fun Q hQ => x_W_j hf rfl hQ⟩
/-- the roads of a switch, one by one -/
noncomputable def y_swl (f : Nat → xE → yR) (a : xv) (tg : List Nat) : Int → xE → yR := List.rec (motive := fun _ => Int → xE → yR) (fun _ _ => some []) (fun t _ ih z e => y_fk (x_re e a (0, 0, z)) (f t) (some e) (fun e => ih (z + 1) e)) tg
theorem y_swl_ok {f : Nat → xE → yR} {a : xv} {ρ : Nat → Int} {tg : List Nat} : ∀ {z : Int} {env : xE} {outs : List yo} {j t : Nat}, y_swl f a tg z env = some outs → x_sat ρ env → tg[j]? = some t → x_vl ρ a = z + j → ∃ env' l, x_sat ρ env' ∧ env'.length = env.length ∧ f t env' = some l ∧ ∀ o ∈ l, o ∈ outs := by
  induction tg with
  | nil => intro z env outs j t h _ hj; cases hj
  | cons t0 ts ih =>
    intro z env outs j t h hsat hj hz
    have h : y_fk (x_re env a (0, 0, z)) (f t0) (some env) (fun e => y_swl f a ts (z + 1) e) = some outs := h
    cases j with
    | zero =>
      cases hj
      obtain ⟨e1, g1, g2, g3⟩ := x_re_ok (a := a) (b := (0, 0, z)) hsat (by show x_vl ρ a = z; omega)
      obtain ⟨l, l1, l2⟩ := y_fk_1 h g1
      exact ⟨e1, l, g2, g3, l1, l2⟩
    | succ j =>
      obtain ⟨l, l1, l2⟩ := y_fk_2 h rfl
      obtain ⟨env', l', i1, i2, i3, i4⟩ := ih (j := j) l1 hsat hj (by omega)
      exact ⟨env', l', i1, i2, i3, fun o z => l2 o (i4 o z)⟩
noncomputable def yo_sw (lo9 hi9 : Int) (dft : Nat) (tg : List Nat) (ih : Nat → yK) : yK := fun L st h env kc ks => match st with
  | a :: r => match Nat.beq a.1 0 && x_wi (-2147483648) 2147483647 env a with
    | true => y_fk (x_rl 1 env a (0, 0, lo9)) (fun e => ih dft L r h e kc ks) (x_rl 0 env (0, 0, lo9) a) (fun e => y_fk (x_rl 1 e (0, 0, hi9) a) (fun e => ih dft L r h e kc ks) (x_rl 0 e a (0, 0, hi9)) (fun e => y_swl (fun t e => ih t L r h e kc ks) a tg lo9 e))
    | false => none
  | [] => none
theorem ys_sw {d lo9 hi9 : Int} {offs : Array Int} {dft : Nat} {tg : List Nat} {ih : Nat → yK} (hf : ev_f t pc = some (pp0, .tableswitch d lo9 hi9 offs, a, b, pp, v)) (hd : (pc : Int) + d = (dft : Int)) (ht : offs.toList.map (fun o => (pc : Int) + o) = tg.map (fun (k : Nat) => (k : Int))) (hl : hi9 < lo9 + tg.length) (hi : ∀ p, y_S h0 scx (rt, ini, mx, na, rc, fr, lo, mc, ms, t) p (ih p)) : y_S h0 scx (rt, ini, mx, na, rc, fr, lo, mc, ms, t) pc (yo_sw lo9 hi9 dft tg ih) := by
  refine y_S_of fun L st h env kc ks outs hk ρ sc Lc stc hc hX hG => ?_
  unfold yo_sw at hk
  split at hk
  · rename_i x r
    split at hk
    · rename_i hq
      rw [Bool.and_eq_true] at hq
      obtain ⟨hsat, hL, hst, hh⟩ := hG
      obtain ⟨x1, x2⟩ := x_wi_ok hsat hq.2
      have ex := x_i32 x1 x2
      have hrr : x_rS env.length ρ r (r.map (x_in ρ)) := ⟨rfl, fun z hz => hst.2 z (by simp [hz])⟩
      have hstc : stc = .int (Int32.ofInt (x_vl ρ x)) :: r.map (x_in ρ) := by
        rw [hst.1, List.map_cons, x_in0 (Nat.eq_of_beq_eq_true hq.1)]
      have hj : ev_j (.tableswitch d lo9 hi9 offs) pc a stc = (if x_vl ρ x < lo9 ∨ hi9 < x_vl ρ x then match (pc : Int) + d with
        | .ofNat t => some (t, r.map (x_in ρ))
        | .negSucc _ => none
      else match offs.toList[(x_vl ρ x - lo9).toNat]? with
        | some o => match (pc : Int) + o with
          | .ofNat t => some (t, r.map (x_in ρ))
          | .negSucc _ => none
        | none => none) := by
        rw [hstc]
        show (if (Int32.ofInt (x_vl ρ x)).toInt < lo9 ∨ hi9 < (Int32.ofInt (x_vl ρ x)).toInt then _ else _) = _
        rw [ex]
        rfl
      have fin : ∀ (env' : xE) (p : Nat) (l : List yo), x_sat ρ env' → env'.length = env.length → ih p L r h env' kc ks = some l → (∀ o ∈ l, o ∈ outs) → ev_j (.tableswitch d lo9 hi9 offs) pc a stc = some (p, r.map (x_in ρ)) → ∃ (next : yK) (pc' : Nat) (ρ' : Nat → Int) (L' st' : List xv) (h' : yH) (env' : xE) (kc' ks' : Nat) (Lc' : ev_L) (stc' : List Value) (hc' : ev_H) (outs' : List yo), y_S h0 scx (rt, ini, mx, na, rc, fr, lo, mc, ms, t) pc' next ∧ x_ext env.length ρ ρ' ∧ env.length ≤ env'.length ∧ y_G h0 ρ' env' L' st' h' Lc' stc' hc' ∧ next L' st' h' env' kc' ks' = some outs' ∧ (∀ o ∈ outs', o ∈ outs) ∧
      ∀ Q, x_W sc (rt, ini, mx, na, rc, fr, lo, mc, ms, t) pc' Lc' stc' hc' kc' ks' Q → x_W sc (rt, ini, mx, na, rc, fr, lo, mc, ms, t) pc Lc stc hc kc ks Q := by
        intro env' p l e1 e2 e3 e4 e5
        exact ⟨ih p, p, ρ, L, r, h, env', kc, ks, Lc, r.map (x_in ρ), hc, l, hi p, x_ext.rf, Nat.le_of_eq e2.symm, ⟨e1, by rw [e2]; exact hL, by rw [e2]; exact hrr, by rw [e2]; exact hh⟩, e3, e4, fun Q hQ => x_W_j hf e5 hQ⟩
      by_cases h1 : x_vl ρ x < lo9
      · obtain ⟨e1, g1, g2, g3⟩ := x_rl_ok (k := 1) (a := x) (b := (0, 0, lo9)) hsat (by show x_vl ρ x + 1 ≤ lo9; omega)
        obtain ⟨l, l1, l2⟩ := y_fk_1 hk g1
        refine fin e1 dft l g2 g3 l1 l2 ?_
        rw [hj, if_pos (Or.inl h1), hd]
        try rfl
      · obtain ⟨e1, g1, g2, g3⟩ := x_rl_ok (k := 0) (a := (0, 0, lo9)) (b := x) hsat (by show lo9 + 0 ≤ x_vl ρ x; omega)
        obtain ⟨l, l1, l2⟩ := y_fk_2 hk g1
        by_cases h2 : hi9 < x_vl ρ x
        · obtain ⟨e2, i1, i2, i3⟩ := x_rl_ok (k := 1) (a := (0, 0, hi9)) (b := x) g2 (by show hi9 + 1 ≤ x_vl ρ x; omega)
          obtain ⟨l', j1, j2⟩ := y_fk_1 l1 i1
          refine fin e2 dft l' i2 (i3.trans g3) j1 (fun o z => l2 o (j2 o z)) ?_
          rw [hj, if_pos (Or.inr h2), hd]
          try rfl
        · obtain ⟨e2, i1, i2, i3⟩ := x_rl_ok (k := 0) (a := x) (b := (0, 0, hi9)) g2 (by show x_vl ρ x + 0 ≤ hi9; omega)
          obtain ⟨l', j1, j2⟩ := y_fk_2 l1 i1
          have hlt : (x_vl ρ x - lo9).toNat < tg.length := by omega
          obtain ⟨e3, l3, k1, k2, k3, k4⟩ := y_swl_ok (j := (x_vl ρ x - lo9).toNat) j1 i2 (List.getElem?_eq_getElem hlt) (by omega)
          refine fin e3 _ l3 k1 (k2.trans (i3.trans g3)) k3 (fun o z => l2 o (j2 o (k4 o z))) ?_
          rw [hj, if_neg (by omega)]
          have hz : (offs.toList.map (fun o => (pc : Int) + o))[(x_vl ρ x - lo9).toNat]? = some ((tg[(x_vl ρ x - lo9).toNat] : Nat) : Int) := by
            rw [ht, List.getElem?_map, List.getElem?_eq_getElem hlt]
            rfl
          rw [List.getElem?_map] at hz
          cases ho : offs.toList[(x_vl ρ x - lo9).toNat]? with
          | none => rw [ho] at hz; cases hz
          | some o =>
            rw [ho] at hz
            have hz : (pc : Int) + o = ((tg[(x_vl ρ x - lo9).toNat] : Nat) : Int) := Option.some.inj hz
            dsimp only
            rw [hz]
            try rfl
    · cases hk
  · cases hk
noncomputable def yo_ri (rt : Nat) : yK := fun _ st h env kc ks => match st with
  | v :: r => match r with
    | [] => match Nat.beq v.1 0 with
      | true => match rt with
        | 1 => some [(0, [], [v], h, env, kc, ks)]
        | 2 => match x_wi 0 1 env v with
          | true => some [(0, [], [v], h, env, kc, ks)]
          | false => none
        | 3 => match x_wi 0 65535 env v with
          | true => some [(0, [], [v], h, env, kc, ks)]
          | false => none
        | _ => none
      | false => none
    | _ :: _ => none
  | [] => none
theorem ys_ri (hf : ev_f t pc = some (pp0, .ireturn, a, b, pp, v)) : y_S h0 scx (rt, ini, mx, na, rc, fr, lo, mc, ms, t) pc (yo_ri rt) := by
  intro L st h env kc ks outs hk ρ sc Lc stc hc hX hG Q hQ
  unfold yo_ri at hk
  obtain ⟨hsat, hL, hst, hh⟩ := hG
  have fin : ∀ (x : xv), st = [x] → x.1 = 0 → outs = [(0, [], [x], h, env, kc, ks)] → ev_rok rt .ireturn [.int (Int32.ofInt (x_vl ρ x))] = some (some (.int (Int32.ofInt (x_vl ρ x)))) → x_W sc (rt, ini, mx, na, rc, fr, lo, mc, ms, t) pc Lc stc hc kc ks Q := by
    intro x e1 e2 e3 e4
    subst e1
    subst e3
    have hstc : stc = [.int (Int32.ofInt (x_vl ρ x))] := by rw [hst.1, List.map_cons, x_in0 e2]; rfl
    refine x_W_r hf (by rw [hstc]; exact e4) ?_
    have := hQ _ (List.mem_singleton.mpr rfl) ρ Lc stc hc x_ext.rf (Nat.le_refl _) ⟨hsat, fun k v hk => (by cases hk), hst, hh⟩
    rw [hstc] at this
    exact this
  split at hk
  · rename_i x r
    split at hk
    · split at hk
      · rename_i hq
        have hq := Nat.eq_of_beq_eq_true hq
        split at hk
        · exact fin x rfl hq (Option.some.inj hk).symm rfl
        · split at hk
          · rename_i hw
            obtain ⟨w1, w2⟩ := x_wi_ok hsat hw
            refine fin x rfl hq (Option.some.inj hk).symm ?_
            have : x_vl ρ x = 0 ∨ x_vl ρ x = 1 := by omega
            rcases this with z | z
            · rw [z]; rfl
            · rw [z]; rfl
          · cases hk
        · split at hk
          · rename_i hw
            obtain ⟨w1, w2⟩ := x_wi_ok hsat hw
            refine fin x rfl hq (Option.some.inj hk).symm ?_
            show (if narrow .char (.int (Int32.ofInt (x_vl ρ x))) = .int (Int32.ofInt (x_vl ρ x)) then some (some (Value.int (Int32.ofInt (x_vl ρ x)))) else none) = _
            rw [if_pos (x_nchar w1 w2)]
          · cases hk
        · cases hk
      · cases hk
    · cases hk
  · cases hk
def yo_rl (rt : Nat) : yK := fun _ st h env kc ks => match st with
  | v :: r => match r with
    | [] => match Nat.beq v.1 1 && Nat.beq rt 4 with
      | true => some [(0, [], [v], h, env, kc, ks)]
      | false => none
    | _ :: _ => none
  | [] => none
theorem ys_rl (hf : ev_f t pc = some (pp0, .lreturn, a, b, pp, v)) : y_S h0 scx (rt, ini, mx, na, rc, fr, lo, mc, ms, t) pc (yo_rl rt) := by
  intro L st h env kc ks outs hk ρ sc Lc stc hc hX hG Q hQ
  unfold yo_rl at hk
  obtain ⟨hsat, hL, hst, hh⟩ := hG
  split at hk
  · rename_i x r
    split at hk
    · split at hk
      · rename_i hq
        rw [Bool.and_eq_true] at hq
        have q2 := Nat.eq_of_beq_eq_true hq.2
        subst q2
        cases hk
        have hstc : stc = [.long (Int64.ofInt (x_vl ρ x))] := by rw [hst.1, List.map_cons, x_in1 (Nat.eq_of_beq_eq_true hq.1)]; rfl
        refine x_W_r hf (r := some (.long (Int64.ofInt (x_vl ρ x)))) (by rw [hstc]; rfl) ?_
        have := hQ _ (List.mem_singleton.mpr rfl) ρ Lc stc hc x_ext.rf (Nat.le_refl _) ⟨hsat, fun k v hk => (by cases hk), hst, hh⟩
        rw [hstc] at this
        exact this
      · cases hk
    · cases hk
  · cases hk
def yo_rv (rt : Nat) : yK := fun _ st h env kc ks => match st with
  | [] => match Nat.beq rt 0 with
    | true => some [(0, [], [], h, env, kc, ks)]
    | false => none
  | _ :: _ => none
theorem ys_rv (hf : ev_f t pc = some (pp0, .return_, a, b, pp, v)) : y_S h0 scx (rt, ini, mx, na, rc, fr, lo, mc, ms, t) pc (yo_rv rt) := by
  intro L st h env kc ks outs hk ρ sc Lc stc hc hX hG Q hQ
  unfold yo_rv at hk
  obtain ⟨hsat, hL, hst, hh⟩ := hG
  split at hk
  · split at hk
    · rename_i hq
      have q2 := Nat.eq_of_beq_eq_true hq
      subst q2
      cases hk
      have hstc : stc = [] := hst.1
      refine x_W_r hf (r := none) (by rw [hstc]; rfl) ?_
      have := hQ _ (List.mem_singleton.mpr rfl) ρ Lc stc hc x_ext.rf (Nat.le_refl _) ⟨hsat, fun k v hk => (by cases hk), hst, hh⟩
      rw [hstc] at this
      exact this
    · cases hk
  · cases hk
end XJU

end YYY
