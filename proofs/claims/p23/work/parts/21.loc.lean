/-! locals, roads -/
section XLO
variable {scx : Option (List xv)} {rt ini mx na rc fr lo mc ms : Nat} {t : ev_T} {pc pp0 a b pp : Nat} {i : Instr} {v : Value} {next : xK}
/-- a step on locals and stack, no new symbol -/
theorem x_S_l (hf : ev_f t pc = some (pp0, i, a, b, pp, v)) (hn : x_S scx (rt, ini, mx, na, rc, fr, lo, mc, ms, t) (pc + ev_len i) next) {K : xK} (hK : ∀ L st h env kc ks outs, K L st h env kc ks = some outs → ∀ ρ Lc stc, x_sat ρ env → x_rL env.length ρ L Lc → x_rS env.length ρ st stc →
    ∃ (L' st' : List xv) (Lc' : ev_L) (stc' : List Value), x_rL env.length ρ L' Lc' ∧ x_rS env.length ρ st' stc' ∧ ev_l i mx Lc stc = some (Lc', stc') ∧ next L' st' h env kc ks = some outs) : x_S scx (rt, ini, mx, na, rc, fr, lo, mc, ms, t) pc K := by
  refine x_S_of fun L st h env kc ks outs hk ρ sc Lc stc hc hX hG => ?_
  obtain ⟨L', st', Lc', stc', g1, g2, g3, g4⟩ := hK L st h env kc ks outs hk ρ Lc stc hG.1 hG.2.1 hG.2.2.1
  exact ⟨next, _, ρ, L', st', h, env, kc, ks, Lc', stc', hc, outs, hn, x_ext.rf, Nat.le_refl _, ⟨hG.1, g1, g2, hG.2.2.2⟩, g4, fun _ h => h, fun Q hQ => x_W_l hf g3 hQ⟩
noncomputable def xo_ld (kd k : Nat) (next : xK) : xK := fun L st h env kc ks => match x_n L k with
  | some v => match Nat.beq v.1 kd with
    | true => next L (x_kv env v :: st) h env kc ks
    | false => none
  | none => none
noncomputable def xo_lda (k : Nat) (next : xK) : xK := fun L st h env kc ks => match x_n L k with
  | some v => match Nat.beq v.1 2 || Nat.beq v.1 3 with
    | true => next L (v :: st) h env kc ks
    | false => none
  | none => none
theorem xs_ld (hf : ev_f t pc = some (pp0, i, a, b, pp, v)) (hn : x_S scx (rt, ini, mx, na, rc, fr, lo, mc, ms, t) (pc + ev_len i) next) {kd k : Nat} (h4 : kd < 4) (hs : ∀ ρ (x : xv) Lc stc, x.1 = kd → ev_lk Lc k = some (x_in ρ x) → ev_l i mx Lc stc = some (Lc, x_in ρ x :: stc)) : x_S scx (rt, ini, mx, na, rc, fr, lo, mc, ms, t) pc (xo_ld kd k next) :=
  x_S_l hf hn fun L st h env kc ks outs hk ρ Lc stc hsat hL hst => by
    unfold xo_ld at hk
    split at hk
    · rename_i x hx
      split at hk
      · rename_i hq
        rw [x_n_eq] at hx
        have hq := Nat.eq_of_beq_eq_true hq
        obtain ⟨g1, g2⟩ := hL k x hx (by rw [hq]; exact h4)
        obtain ⟨k1, k2, k3, k4⟩ := x_kv_ok (v := x) hsat
        exact ⟨L, x_kv env x :: st, Lc, x_in ρ x :: stc, hL, ⟨by rw [hst.1, List.map_cons, k2], List.forall_mem_cons.mpr ⟨k4 _ g1, hst.2⟩⟩, hs ρ x Lc stc hq g2, hk⟩
      · cases hk
    · cases hk
theorem xs_lda (hf : ev_f t pc = some (pp0, i, a, b, pp, v)) (hn : x_S scx (rt, ini, mx, na, rc, fr, lo, mc, ms, t) (pc + ev_len i) next) {k : Nat} (hs : ∀ ρ (x : xv) Lc stc, (x.1 = 2 ∨ x.1 = 3) → ev_lk Lc k = some (x_in ρ x) → ev_l i mx Lc stc = some (Lc, x_in ρ x :: stc)) : x_S scx (rt, ini, mx, na, rc, fr, lo, mc, ms, t) pc (xo_lda k next) :=
  x_S_l hf hn fun L st h env kc ks outs hk ρ Lc stc hsat hL hst => by
    unfold xo_lda at hk
    split at hk
    · rename_i x hx
      split at hk
      · rename_i hq
        rw [x_n_eq] at hx
        have hq : x.1 = 2 ∨ x.1 = 3 := by
          rcases (Bool.or_eq_true _ _).mp hq with h | h
          · exact Or.inl (Nat.eq_of_beq_eq_true h)
          · exact Or.inr (Nat.eq_of_beq_eq_true h)
        obtain ⟨g1, g2⟩ := hL k x hx (by rcases hq with h | h <;> rw [h] <;> decide)
        exact ⟨L, x :: st, Lc, x_in ρ x :: stc, hL, ⟨by rw [hst.1]; rfl, List.forall_mem_cons.mpr ⟨g1, hst.2⟩⟩, hs ρ x Lc stc hq g2, hk⟩
      · cases hk
    · cases hk
/-- what lies in a local; a long ahead of it is gone -/
noncomputable def x_stl (L : List xv) (k : Nat) (v : xv) : List xv := match k with
  | 0 => x_u v L 0
  | j + 1 => match x_n L j with
    | some w => match Nat.beq w.1 1 with
      | true => x_u (9, 0, 0) (x_u v L (j + 1)) j
      | false => x_u v L (j + 1)
    | none => x_u v L (j + 1)
theorem x_lk_f {p : Nat × Value → Bool} {L : ev_L} {k : Nat} {v : Value} (h : ev_lk L k = some v) (hp : p (k, v) = true) : ev_lk (L.filter p) k = some v ∨ ∃ w, False ∧ w = v := by
  induction L with
  | nil => cases h
  | cons q r ih =>
    unfold ev_lk at h
    cases hq : Nat.beq q.1 k with
    | true =>
      rw [hq] at h
      cases h
      have hk := Nat.eq_of_beq_eq_true hq
      have hpq : p q = true := by
        obtain ⟨q1, q2⟩ := q
        have hk : q1 = k := hk
        rw [hk]
        exact hp
      rw [List.filter_cons_of_pos hpq]
      left
      unfold ev_lk
      rw [hq]
    | false =>
      rw [hq] at h
      rcases ih h with ih | ⟨w, hw, -⟩
      · left
        by_cases hpq : p q = true
        · rw [List.filter_cons_of_pos hpq]
          unfold ev_lk
          rw [hq]
          exact ih
        · rw [List.filter_cons_of_neg hpq]
          exact ih
      · exact hw.elim
theorem x_lk_g {p : Nat × Value → Bool} {L : ev_L} {k : Nat} {v : Value} (h : ev_lk L k = some v) (hp : p (k, v) = true) : ev_lk (L.filter p) k = some v := by
  rcases x_lk_f h hp with h | ⟨w, hw, -⟩
  · exact h
  · exact hw.elim
theorem x_lk_c {L : ev_L} {k j : Nat} {v : Value} (hkj : k ≠ j) : ev_lk ((k, v) :: L) j = ev_lk L j := by
  have : Nat.beq k j = false := by
    cases hq : Nat.beq k j with
    | true => exact absurd (Nat.eq_of_beq_eq_true hq) hkj
    | false => rfl
  show (match Nat.beq k j with
    | true => some v
    | false => ev_lk L j) = _
  rw [this]
theorem x_lk_h {L : ev_L} {k : Nat} {v : Value} : ev_lk ((k, v) :: L) k = some v := by
  show (match Nat.beq k k with
    | true => some v
    | false => ev_lk L k) = _
  rw [Nat.beq_refl]
theorem x_cat {ρ : Nat → Int} {x : xv} (h : x.1 ≠ 1) : (x_in ρ x).category = 1 := by
  obtain ⟨k, s, o⟩ := x
  match k, h with
  | 0, _ => rfl
  | 1, h => exact absurd rfl h
  | 2, _ => rfl
  | 3, _ => rfl
  | k + 4, _ => rfl
/-- what is known behind a store -/
theorem x_stl_at {L : List xv} {k j : Nat} {v w : xv} (h : (x_stl L k v)[j]? = some w) (h4 : w.1 < 4) : (j = k ∧ w = v) ∨ (j ≠ k ∧ L[j]? = some w ∧ ¬ (j + 1 = k ∧ w.1 = 1)) := by
  unfold x_stl at h
  split at h
  · rw [x_u_eq, List.getElem?_set] at h
    by_cases hj : 0 = j
    · rw [if_pos hj] at h
      split at h
      · exact Or.inl ⟨hj.symm, (Option.some.inj h).symm⟩
      · cases h
    · rw [if_neg hj] at h
      exact Or.inr ⟨fun z => hj z.symm, h, fun z => by omega⟩
  · rename_i k'
    split at h
    · rename_i q hq
      rw [x_n_eq] at hq
      split at h
      · rename_i h1
        rw [x_u_eq, x_u_eq, List.getElem?_set] at h
        by_cases hj : k' = j
        · rw [if_pos hj] at h
          split at h
          · cases h
            exact absurd h4 (by decide)
          · cases h
        · rw [if_neg hj, List.getElem?_set] at h
          by_cases hj2 : k' + 1 = j
          · rw [if_pos hj2] at h
            split at h
            · exact Or.inl ⟨hj2.symm, (Option.some.inj h).symm⟩
            · cases h
          · rw [if_neg hj2] at h
            exact Or.inr ⟨fun z => hj2 z.symm, h, fun z => by omega⟩
      · rename_i h1
        rw [x_u_eq, List.getElem?_set] at h
        by_cases hj2 : k' + 1 = j
        · rw [if_pos hj2] at h
          split at h
          · exact Or.inl ⟨hj2.symm, (Option.some.inj h).symm⟩
          · cases h
        · rw [if_neg hj2] at h
          refine Or.inr ⟨fun z => hj2 z.symm, h, fun z => ?_⟩
          have : j = k' := by omega
          subst this
          rw [hq] at h
          cases h
          rw [z.2] at h1
          cases h1
    · rename_i hq
      rw [x_n_eq] at hq
      rw [x_u_eq, List.getElem?_set] at h
      by_cases hj2 : k' + 1 = j
      · rw [if_pos hj2] at h
        split at h
        · exact Or.inl ⟨hj2.symm, (Option.some.inj h).symm⟩
        · cases h
      · rw [if_neg hj2] at h
        refine Or.inr ⟨fun z => hj2 z.symm, h, fun z => ?_⟩
        have : j = k' := by omega
        subst this
        rw [hq] at h
        cases h
theorem x_rL_s1 {n : Nat} {ρ : Nat → Int} {L : List xv} {Lc : ev_L} {k : Nat} {v : xv} (h : x_rL n ρ L Lc) (hv : x_ok n v) : x_rL n ρ (x_stl L k v) (ev_s1 Lc k (x_in ρ v)) := by
  intro j w hj h4
  rcases x_stl_at hj h4 with ⟨rfl, rfl⟩ | ⟨hne, hL, hc⟩
  · exact ⟨hv, x_lk_h⟩
  · obtain ⟨g1, g2⟩ := h j w hL h4
    refine ⟨g1, ?_⟩
    unfold ev_s1
    rw [x_lk_c (fun z => hne z.symm)]
    refine x_lk_g g2 ?_
    have e1 : (j == k) = false := by simp [hne]
    have e2 : (j + 1 == k && (x_in ρ w).category == 2) = false := by
      by_cases hjk : j + 1 = k
      · rw [x_cat (fun z => hc ⟨hjk, z⟩)]
        simp
      · simp [hjk]
    show (!(j == k) && !(j + 1 == k && (x_in ρ w).category == 2)) = true
    rw [e1, e2]
    rfl
noncomputable def xo_st (kd k mx : Nat) (next : xK) : xK := fun L st h env kc ks => match st with
  | v :: r => match Nat.beq v.1 kd && Nat.ble (k + 1) mx with
    | true => next (x_stl L k v) r h env kc ks
    | false => none
  | [] => none
theorem xs_st (hf : ev_f t pc = some (pp0, i, a, b, pp, v)) (hn : x_S scx (rt, ini, mx, na, rc, fr, lo, mc, ms, t) (pc + ev_len i) next) {kd k : Nat} (hs : ∀ ρ (x : xv) Lc stc, x.1 = kd → k < mx → ev_l i mx Lc (x_in ρ x :: stc) = some (ev_s1 Lc k (x_in ρ x), stc)) : x_S scx (rt, ini, mx, na, rc, fr, lo, mc, ms, t) pc (xo_st kd k mx next) :=
  x_S_l hf hn fun L st h env kc ks outs hk ρ Lc stc hsat hL hst => by
    unfold xo_st at hk
    split at hk
    · rename_i x r
      split at hk
      · rename_i hq
        rw [Bool.and_eq_true] at hq
        refine ⟨x_stl L k x, r, ev_s1 Lc k (x_in ρ x), r.map (x_in ρ), x_rL_s1 hL (hst.2 x (by simp)), ⟨rfl, fun z hz => hst.2 z (by simp [hz])⟩, ?_, hk⟩
        rw [hst.1, List.map_cons, hs ρ x Lc _ (Nat.eq_of_beq_eq_true hq.1) (Nat.le_of_ble_eq_true hq.2)]
      · cases hk
    · cases hk
noncomputable def xo_stL (k mx : Nat) (next : xK) : xK := fun L st h env kc ks => match st with
  | v :: r => match Nat.beq v.1 1 && Nat.ble (k + 2) mx with
    | true => next (x_u (9, 0, 0) (x_stl L k v) (k + 1)) r h env kc ks
    | false => none
  | [] => none
theorem x_rL_s2 {n : Nat} {ρ : Nat → Int} {L : List xv} {Lc : ev_L} {k : Nat} {v : xv} (h : x_rL n ρ L Lc) (hv : x_ok n v) : x_rL n ρ (x_u (9, 0, 0) (x_stl L k v) (k + 1)) (ev_s2 Lc k (x_in ρ v)) := by
  intro j w hj h4
  rw [x_u_eq, List.getElem?_set] at hj
  by_cases hk1 : k + 1 = j
  · rw [if_pos hk1] at hj
    split at hj
    · cases hj
      exact absurd h4 (by decide)
    · cases hj
  · rw [if_neg hk1] at hj
    rcases x_stl_at hj h4 with ⟨rfl, rfl⟩ | ⟨hne, hL, hc⟩
    · exact ⟨hv, x_lk_h⟩
    · obtain ⟨g1, g2⟩ := h j w hL h4
      refine ⟨g1, ?_⟩
      unfold ev_s2
      rw [x_lk_c (fun z => hne z.symm)]
      refine x_lk_g g2 ?_
      have e1 : (j == k) = false := by simp [hne]
      have e3 : (j == k + 1) = false := by simp; omega
      have e2 : (j + 1 == k && (x_in ρ w).category == 2) = false := by
        by_cases hjk : j + 1 = k
        · rw [x_cat (fun z => hc ⟨hjk, z⟩)]
          simp
        · simp [hjk]
      show (!(j == k) && (!(j == k + 1) && !(j + 1 == k && (x_in ρ w).category == 2))) = true
      rw [e1, e2, e3]
      rfl
theorem xs_stL (hf : ev_f t pc = some (pp0, i, a, b, pp, v)) (hn : x_S scx (rt, ini, mx, na, rc, fr, lo, mc, ms, t) (pc + ev_len i) next) {k : Nat} (hs : ∀ ρ (x : xv) Lc stc, x.1 = 1 → k + 1 < mx → ev_l i mx Lc (x_in ρ x :: stc) = some (ev_s2 Lc k (x_in ρ x), stc)) : x_S scx (rt, ini, mx, na, rc, fr, lo, mc, ms, t) pc (xo_stL k mx next) :=
  x_S_l hf hn fun L st h env kc ks outs hk ρ Lc stc hsat hL hst => by
    unfold xo_stL at hk
    split at hk
    · rename_i x r
      split at hk
      · rename_i hq
        rw [Bool.and_eq_true] at hq
        refine ⟨_, r, ev_s2 Lc k (x_in ρ x), r.map (x_in ρ), x_rL_s2 hL (hst.2 x (by simp)), ⟨rfl, fun z hz => hst.2 z (by simp [hz])⟩, ?_, hk⟩
        rw [hst.1, List.map_cons, hs ρ x Lc _ (Nat.eq_of_beq_eq_true hq.1) (Nat.le_of_ble_eq_true hq.2)]
      · cases hk
    · cases hk
noncomputable def xo_inc (k mx : Nat) (d : Int) (next : xK) : xK := fun L st h env kc ks => match x_n L k with
  | some v => match Nat.beq v.1 0 && Nat.ble (k + 1) mx with
    | true => next (x_stl L k (0, v.2.1, v.2.2 + d)) st h env kc ks
    | false => none
  | none => none
theorem xs_inc {k : Nat} {d : Int} (hf : ev_f t pc = some (pp0, .iinc k d, a, b, pp, v)) (hn : x_S scx (rt, ini, mx, na, rc, fr, lo, mc, ms, t) (pc + 3) next) : x_S scx (rt, ini, mx, na, rc, fr, lo, mc, ms, t) pc (xo_inc k mx d next) :=
  x_S_l hf hn fun L st h env kc ks outs hk ρ Lc stc hsat hL hst => by
    unfold xo_inc at hk
    split at hk
    · rename_i x hx
      split at hk
      · rename_i hq
        rw [Bool.and_eq_true] at hq
        rw [x_n_eq] at hx
        have q1 := Nat.eq_of_beq_eq_true hq.1
        have q2 : k < mx := Nat.le_of_ble_eq_true hq.2
        obtain ⟨g1, g2⟩ := hL k x hx (by rw [q1]; decide)
        refine ⟨_, st, _, stc, x_rL_s1 (v := (0, x.2.1, x.2.2 + d)) hL g1, hst, ?_, hk⟩
        show (match ev_lk Lc k with
          | some (.int z) => if k < mx then some (ev_s1 Lc k (.int (z + Int32.ofInt d)), stc) else none
          | _ => none) = _
        rw [g2, x_in0 q1]
        dsimp only
        rw [if_pos q2, x_in0 rfl, ← Int32.ofInt_add]
        congr 5
        obtain ⟨kx, sx, ox⟩ := x
        cases sx with
        | zero => rfl
        | succ sx => show ρ sx + ox + d = ρ sx + (ox + d); omega
      · cases hk
    · cases hk
end XLO
/-! roads -/
def x_fk (o1 : Option xE) (f1 : xE → xR) (o2 : Option xE) (f2 : xE → xR) : xR := match o1 with
  | none => match o2 with
    | none => some []
    | some e2 => f2 e2
  | some e1 => match o2 with
    | none => f1 e1
    | some e2 => match f1 e1 with
      | none => none
      | some l1 => match f2 e2 with
        | none => none
        | some l2 => some (l1 ++ l2)
theorem x_fk_1 {o1 o2 : Option xE} {f1 f2 : xE → xR} {outs : List xo} (h : x_fk o1 f1 o2 f2 = some outs) {e : xE} (he : o1 = some e) : ∃ l, f1 e = some l ∧ ∀ o ∈ l, o ∈ outs := by
  subst he
  unfold x_fk at h
  dsimp only at h
  split at h
  · exact ⟨outs, h, fun _ z => z⟩
  · split at h
    · cases h
    · rename_i l1 h1
      split at h
      · cases h
      · cases h
        exact ⟨l1, h1, fun o z => List.mem_append_left _ z⟩
theorem x_fk_2 {o1 o2 : Option xE} {f1 f2 : xE → xR} {outs : List xo} (h : x_fk o1 f1 o2 f2 = some outs) {e : xE} (he : o2 = some e) : ∃ l, f2 e = some l ∧ ∀ o ∈ l, o ∈ outs := by
  subst he
  unfold x_fk at h
  dsimp only at h
  split at h
  · exact ⟨outs, h, fun _ z => z⟩
  · split at h
    · cases h
    · split at h
      · cases h
      · rename_i l2 h2
        cases h
        exact ⟨l2, h2, fun o z => List.mem_append_right _ z⟩
/-- three roads of a comparison of longs -/
noncomputable def xo_lcmp (next : xK) : xK := fun L st h env kc ks => match st with
  | b :: st' => match st' with
    | a :: r => match Nat.beq b.1 1 && (Nat.beq a.1 1 && (x_wi (-9223372036854775808) 9223372036854775807 env a && x_wi (-9223372036854775808) 9223372036854775807 env b)) with
      | true => x_fk (x_rl 1 env a b) (fun e => next L ((0, 0, -1) :: r) h e kc ks) (x_rl 0 env b a) (fun e => x_fk (x_rl 1 e b a) (fun e => next L ((0, 0, 1) :: r) h e kc ks) (x_re e a b) (fun e => next L ((0, 0, 0) :: r) h e kc ks))
      | false => none
    | [] => none
  | [] => none
section XLC
variable {scx : Option (List xv)} {rt ini mx na rc fr lo mc ms : Nat} {t : ev_T} {pc pp0 a b pp : Nat} {i : Instr} {v : Value} {next : xK}
theorem x_lc {x y : Int64} {z : Int32} (h : lg_cmp x y = z) (r : List Value) : ev_s .lcmp v (.long y :: .long x :: r) = some (.int z :: r) := by
  subst h
  rfl
theorem xs_lcmp (hf : ev_f t pc = some (pp0, .lcmp, a, b, pp, v)) (hn : x_S scx (rt, ini, mx, na, rc, fr, lo, mc, ms, t) (pc + 1) next) : x_S scx (rt, ini, mx, na, rc, fr, lo, mc, ms, t) pc (xo_lcmp next) :=
  x_S_s hf hn fun L st h env kc ks outs hk ρ stc hsat hst => by
    unfold xo_lcmp at hk
    split at hk
    · rename_i y st'
      split at hk
      · rename_i x r
        split at hk
        · rename_i hq
          simp only [Bool.and_eq_true] at hq
          obtain ⟨q1, q2, q3, q4⟩ := hq
          have q1 := Nat.eq_of_beq_eq_true q1
          have q2 := Nat.eq_of_beq_eq_true q2
          obtain ⟨w1, w2⟩ := x_wi_ok hsat q3
          obtain ⟨w3, w4⟩ := x_wi_ok hsat q4
          have ex := x_i64 w1 w2
          have ey := x_i64 w3 w4
          have hr : ∀ z ∈ r, x_ok env.length z := fun z hz => hst.2 z (by simp [hz])
          have fin : ∀ (env' : xE) (k : Int) (z : Int32) (l : List xo), Int32.ofInt k = z → x_sat ρ env' → env'.length = env.length → lg_cmp (Int64.ofInt (x_vl ρ x)) (Int64.ofInt (x_vl ρ y)) = z → next L ((0, 0, k) :: r) h env' kc ks = some l → (∀ o ∈ l, o ∈ outs) → ∃ (ρ' : Nat → Int) (st' : List xv) (env' : xE) (stc' : List Value) (outs' : List xo), x_ext env.length ρ ρ' ∧ env.length ≤ env'.length ∧ x_sat ρ' env' ∧ x_rS env'.length ρ' st' stc' ∧ ev_s .lcmp v stc = some stc' ∧ next L st' h env' kc ks = some outs' ∧ ∀ o ∈ outs', o ∈ outs := by
            intro env' k z l hkz hs' hl' hcmp hnx hm
            refine ⟨ρ, (0, 0, k) :: r, env', .int z :: r.map (x_in ρ), l, x_ext.rf, by rw [hl']; exact Nat.le_refl _, hs', ⟨by rw [List.map_cons, x_in0 rfl, ← hkz]; rfl, List.forall_mem_cons.mpr ⟨Nat.zero_le _, fun z hz => by rw [hl']; exact hr z hz⟩⟩, ?_, hnx, hm⟩
            rw [hst.1, List.map_cons, List.map_cons, x_in1 q1, x_in1 q2]
            exact x_lc hcmp _
          by_cases h1 : x_vl ρ x < x_vl ρ y
          · obtain ⟨e1, g1, g2, g3⟩ := x_rl_ok (k := 1) (a := x) (b := y) hsat (by omega)
            obtain ⟨l, l1, l2⟩ := x_fk_1 hk g1
            refine fin e1 (-1) (-1) l (by decide) g2 g3 ?_ l1 l2
            unfold lg_cmp
            rw [if_neg (fun z => by have z := Int64.lt_iff_toInt_lt.mp z; omega), if_neg (fun z => by have z := congrArg Int64.toInt z; omega)]
          · obtain ⟨e1, g1, g2, g3⟩ := x_rl_ok (k := 0) (a := y) (b := x) hsat (by omega)
            obtain ⟨l, l1, l2⟩ := x_fk_2 hk g1
            by_cases h2 : x_vl ρ y < x_vl ρ x
            · obtain ⟨e2, i1, i2, i3⟩ := x_rl_ok (k := 1) (a := y) (b := x) g2 (by omega)
              obtain ⟨l', j1, j2⟩ := x_fk_1 l1 i1
              refine fin e2 1 1 l' (by decide) i2 (i3.trans g3) ?_ j1 (fun o z => l2 o (j2 o z))
              unfold lg_cmp
              rw [if_pos (show Int64.ofInt (x_vl ρ y) < Int64.ofInt (x_vl ρ x) from Int64.lt_iff_toInt_lt.mpr (by omega))]
            · obtain ⟨e2, i1, i2, i3⟩ := x_re_ok (a := x) (b := y) g2 (by omega)
              obtain ⟨l', j1, j2⟩ := x_fk_2 l1 i1
              refine fin e2 0 0 l' (by decide) i2 (i3.trans g3) ?_ j1 (fun o z => l2 o (j2 o z))
              unfold lg_cmp
              rw [if_neg (fun z => by have z := Int64.lt_iff_toInt_lt.mp z; omega), if_pos (by rw [show x_vl ρ x = x_vl ρ y by omega])]
        · cases hk
      · cases hk
    · cases hk
/-! comparing ints -/
noncomputable def x_ct (c : ClassFile.Cond) (env : xE) (a b : xv) : Option xE := match c with
  | .eq => x_re env a b
  | .ne => x_rn env a b
  | .lt => x_rl 1 env a b
  | .ge => x_rl 0 env b a
  | .gt => x_rl 1 env b a
  | .le => x_rl 0 env a b
noncomputable def x_cf (c : ClassFile.Cond) (env : xE) (a b : xv) : Option xE := match c with
  | .eq => x_rn env a b
  | .ne => x_re env a b
  | .lt => x_rl 0 env b a
  | .ge => x_rl 1 env a b
  | .gt => x_rl 0 env a b
  | .le => x_rl 1 env b a
def x_cp (c : ClassFile.Cond) (x y : Int) : Prop := match c with
  | .eq => x = y
  | .ne => x ≠ y
  | .lt => x < y
  | .ge => y ≤ x
  | .gt => y < x
  | .le => x ≤ y
theorem x_ct_ok {c : ClassFile.Cond} {ρ : Nat → Int} {env : xE} {a b : xv} (h : x_sat ρ env) (hc : x_cp c (x_vl ρ a) (x_vl ρ b)) : ∃ env', x_ct c env a b = some env' ∧ x_sat ρ env' ∧ env'.length = env.length := by
  cases c with
  | eq => exact x_re_ok h hc
  | ne => exact x_rn_ok h hc
  | lt => exact x_rl_ok h (by have hc : x_vl ρ a < x_vl ρ b := hc; omega)
  | ge => exact x_rl_ok h (by have hc : x_vl ρ b ≤ x_vl ρ a := hc; omega)
  | gt => exact x_rl_ok h (by have hc : x_vl ρ b < x_vl ρ a := hc; omega)
  | le => exact x_rl_ok h (by have hc : x_vl ρ a ≤ x_vl ρ b := hc; omega)
theorem x_cf_ok {c : ClassFile.Cond} {ρ : Nat → Int} {env : xE} {a b : xv} (h : x_sat ρ env) (hc : ¬ x_cp c (x_vl ρ a) (x_vl ρ b)) : ∃ env', x_cf c env a b = some env' ∧ x_sat ρ env' ∧ env'.length = env.length := by
  cases c with
  | eq => exact x_rn_ok h hc
  | ne => exact x_re_ok h (Classical.byContradiction fun z => hc z)
  | lt => exact x_rl_ok h (by have hc : ¬ x_vl ρ a < x_vl ρ b := hc; omega)
  | ge => exact x_rl_ok h (by have hc : ¬ x_vl ρ b ≤ x_vl ρ a := hc; omega)
  | gt => exact x_rl_ok h (by have hc : ¬ x_vl ρ b < x_vl ρ a := hc; omega)
  | le => exact x_rl_ok h (by have hc : ¬ x_vl ρ a ≤ x_vl ρ b := hc; omega)
end XLC
