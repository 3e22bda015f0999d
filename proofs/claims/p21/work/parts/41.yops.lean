/-! as its elder, over the other heap; by program -/
section YYY
variable {h0 : yQ × ev_H}
/-- a step: what K does is a step of ours and then what next does -/
theorem y_S_of {scx : yX} {I : ev_I} {pc : Nat} {K : yK} (hK : ∀ L st h env kc ks outs, K L st h env kc ks = some outs → ∀ ρ sc Lc stc hc, y_rX env.length ρ scx sc → y_G h0 ρ env L st h Lc stc hc →
    ∃ (next : yK) (pc' : Nat) (ρ' : Nat → Int) (L' st' : List xv) (h' : yH) (env' : xE) (kc' ks' : Nat) (Lc' : ev_L) (stc' : List Value) (hc' : ev_H) (outs' : List yo), y_S h0 scx I pc' next ∧ x_ext env.length ρ ρ' ∧ env.length ≤ env'.length ∧ y_G h0 ρ' env' L' st' h' Lc' stc' hc' ∧ next L' st' h' env' kc' ks' = some outs' ∧ (∀ o ∈ outs', o ∈ outs) ∧
      ∀ Q, x_W sc I pc' Lc' stc' hc' kc' ks' Q → x_W sc I pc Lc stc hc kc ks Q) : y_S h0 scx I pc K := by
  intro L st h env kc ks outs hk ρ sc Lc stc hc hX hG Q hQ
  obtain ⟨next, pc', ρ', L', st', h', env', kc', ks', Lc', stc', hc', outs', g1, g2, g3, g4, g5, g6, g7⟩ := hK L st h env kc ks outs hk ρ sc Lc stc hc hX hG
  exact g7 Q (g1 L' st' h' env' kc' ks' outs' g5 ρ' sc Lc' stc' hc' (hX.up g2 g3) g4 Q (fun o ho => (hQ o (g6 o ho)).up g2 g3))
theorem y_G.up {ρ ρ' : Nat → Int} {env env' : xE} {L st st' : List xv} {h : yH} {Lc : ev_L} {stc stc' : List Value} {hc : ev_H} (hG : y_G h0 ρ env L st h Lc stc hc) (he : x_ext env.length ρ ρ') (hn : env.length ≤ env'.length) (hs : x_sat ρ' env') (hst : x_rS env'.length ρ' st' stc') : y_G h0 ρ' env' L st' h Lc stc' hc := ⟨hs, hG.2.1.up he hn, hst, hG.2.2.2.up he hn⟩
section XOP
variable {scx : yX} {rt ini mx na rc fr lo mc ms : Nat} {t : ev_T} {pc pp0 a b pp : Nat} {i : Instr} {v : Value} {next : yK}
/-- a step on the stack alone -/
theorem y_S_s (hf : ev_f t pc = some (pp0, i, a, b, pp, v)) (hn : y_S h0 scx (rt, ini, mx, na, rc, fr, lo, mc, ms, t) (pc + ev_len i) next) {K : yK} (hK : ∀ L st h env kc ks outs, K L st h env kc ks = some outs → ∀ ρ stc, x_sat ρ env → x_rS env.length ρ st stc →
    ∃ (ρ' : Nat → Int) (st' : List xv) (env' : xE) (stc' : List Value) (outs' : List yo), x_ext env.length ρ ρ' ∧ env.length ≤ env'.length ∧ x_sat ρ' env' ∧ x_rS env'.length ρ' st' stc' ∧ ev_s i v stc = some stc' ∧ next L st' h env' kc ks = some outs' ∧ ∀ o ∈ outs', o ∈ outs) : y_S h0 scx (rt, ini, mx, na, rc, fr, lo, mc, ms, t) pc K := by
  refine y_S_of fun L st h env kc ks outs hk ρ sc Lc stc hc hX hG => ?_
  obtain ⟨ρ', st', env', stc', outs', g1, g2, g3, g4, g5, g6, g7⟩ := hK L st h env kc ks outs hk ρ stc hG.1 hG.2.2.1
  exact ⟨next, _, ρ', L, st', h, env', kc, ks, Lc, stc', hc, outs', hn, g1, g2, hG.up g1 g2 g3 g4, g6, g7, fun Q hQ => x_W_s hf g5 hQ⟩
def yo_push (w : xv) (next : yK) : yK := fun L st h env kc ks => next L (w :: st) h env kc ks
theorem ys_push (hf : ev_f t pc = some (pp0, i, a, b, pp, v)) (hn : y_S h0 scx (rt, ini, mx, na, rc, fr, lo, mc, ms, t) (pc + ev_len i) next) {w : xv} (hw : w.2.1 = 0) (hs : ∀ ρ stc, ev_s i v stc = some (x_in ρ w :: stc)) : y_S h0 scx (rt, ini, mx, na, rc, fr, lo, mc, ms, t) pc (yo_push w next) :=
  y_S_s hf hn fun L st h env kc ks outs hk ρ stc hsat hst => ⟨ρ, w :: st, env, x_in ρ w :: stc, outs, x_ext.rf, Nat.le_refl _, hsat, ⟨by rw [hst.1]; rfl, List.forall_mem_cons.mpr ⟨by show w.2.1 ≤ _; rw [hw]; exact Nat.zero_le _, hst.2⟩⟩, hs ρ stc, hk, fun _ h => h⟩
def yo_bin (ka kb : Nat) (g : xE → xv → xv → Option (xv × xE)) (next : yK) : yK := fun L st h env kc ks => match st with
  | b :: st' => match st' with
    | a :: r => match Nat.beq b.1 kb && Nat.beq a.1 ka with
      | true => match g env a b with
        | some p => next L (p.1 :: r) h p.2 kc ks
        | none => none
      | false => none
    | [] => none
  | [] => none
theorem ys_bin (hf : ev_f t pc = some (pp0, i, a, b, pp, v)) (hn : y_S h0 scx (rt, ini, mx, na, rc, fr, lo, mc, ms, t) (pc + ev_len i) next) {ka kb : Nat} {g : xE → xv → xv → Option (xv × xE)} (hg : x_g2 ka kb (ev_s i v) g) : y_S h0 scx (rt, ini, mx, na, rc, fr, lo, mc, ms, t) pc (yo_bin ka kb g next) :=
  y_S_s hf hn fun L st h env kc ks outs hk ρ stc hsat hst => by
    unfold yo_bin at hk
    split at hk
    · rename_i y st'
      split at hk
      · rename_i x r
        split at hk
        · rename_i hq
          split at hk
          · rename_i p hp
            rw [Bool.and_eq_true] at hq
            have q1 := Nat.eq_of_beq_eq_true hq.1
            have q2 := Nat.eq_of_beq_eq_true hq.2
            have o1 := hst.2 x (by simp)
            have o2 := hst.2 y (by simp)
            obtain ⟨ρ', g1, g2, g3, g4, g5⟩ := hg env x y p ρ hp q2 q1 hsat o1 o2
            have hr : ∀ z ∈ r, x_ok env.length z := fun z hz => hst.2 z (by simp [hz])
            refine ⟨ρ', p.1 :: r, p.2, x_in ρ' p.1 :: r.map (x_in ρ), outs, g1, g2, g3, ⟨by rw [List.map_cons, x_map_ext g1 hr], List.forall_mem_cons.mpr ⟨g4, fun z hz => (hr z hz).up g2⟩⟩, ?_, hk, fun _ h => h⟩
            rw [hst.1, List.map_cons, List.map_cons, g5]
          · cases hk
        · cases hk
      · cases hk
    · cases hk
def yo_un (k : Nat) (g : xE → xv → Option (xv × xE)) (next : yK) : yK := fun L st h env kc ks => match st with
  | a :: r => match Nat.beq a.1 k with
    | true => match g env a with
      | some p => next L (p.1 :: r) h p.2 kc ks
      | none => none
    | false => none
  | [] => none
theorem ys_un (hf : ev_f t pc = some (pp0, i, a, b, pp, v)) (hn : y_S h0 scx (rt, ini, mx, na, rc, fr, lo, mc, ms, t) (pc + ev_len i) next) {k : Nat} {g : xE → xv → Option (xv × xE)} (hg : x_g1 k (ev_s i v) g) : y_S h0 scx (rt, ini, mx, na, rc, fr, lo, mc, ms, t) pc (yo_un k g next) :=
  y_S_s hf hn fun L st h env kc ks outs hk ρ stc hsat hst => by
    unfold yo_un at hk
    split at hk
    · rename_i x r
      split at hk
      · rename_i hq
        split at hk
        · rename_i p hp
          have q1 := Nat.eq_of_beq_eq_true hq
          have o1 := hst.2 x (by simp)
          obtain ⟨ρ', g1, g2, g3, g4, g5⟩ := hg env x p ρ hp q1 hsat o1
          have hr : ∀ z ∈ r, x_ok env.length z := fun z hz => hst.2 z (by simp [hz])
          refine ⟨ρ', p.1 :: r, p.2, x_in ρ' p.1 :: r.map (x_in ρ), outs, g1, g2, g3, ⟨by rw [List.map_cons, x_map_ext g1 hr], List.forall_mem_cons.mpr ⟨g4, fun z hz => (hr z hz).up g2⟩⟩, ?_, hk, fun _ h => h⟩
          rw [hst.1, List.map_cons, g5]
        · cases hk
      · cases hk
    · cases hk
def yo_dup (next : yK) : yK := fun L st h env kc ks => match st with
  | a :: r => match Nat.beq a.1 0 || Nat.beq a.1 2 with
    | true => next L (a :: a :: r) h env kc ks
    | false => none
  | [] => none
def yo_pop (next : yK) : yK := fun L st h env kc ks => match st with
  | a :: r => match Nat.beq a.1 0 with
    | true => next L r h env kc ks
    | false => none
  | [] => none
def yo_dup2 (next : yK) : yK := fun L st h env kc ks => match st with
  | b :: st' => match st' with
    | a :: r => match Nat.beq b.1 0 && (Nat.beq a.1 0 || Nat.beq a.1 2) with
      | true => next L (b :: a :: b :: a :: r) h env kc ks
      | false => none
    | [] => none
  | [] => none
theorem ys_dup (hf : ev_f t pc = some (pp0, .dup, a, b, pp, v)) (hn : y_S h0 scx (rt, ini, mx, na, rc, fr, lo, mc, ms, t) (pc + 1) next) : y_S h0 scx (rt, ini, mx, na, rc, fr, lo, mc, ms, t) pc (yo_dup next) :=
  y_S_s hf hn fun L st h env kc ks outs hk ρ stc hsat hst => by
    unfold yo_dup at hk
    split at hk
    · rename_i x r
      split at hk
      · rename_i hq
        refine ⟨ρ, x :: x :: r, env, x_in ρ x :: x_in ρ x :: r.map (x_in ρ), outs, x_ext.rf, Nat.le_refl _, hsat, ⟨rfl, List.forall_mem_cons.mpr ⟨hst.2 x (by simp), hst.2⟩⟩, ?_, hk, fun _ h => h⟩
        rw [hst.1, List.map_cons]
        rcases x_or02 hq with h | h
        · rw [x_in0 h]; rfl
        · rw [x_in2 h]; rfl
      · cases hk
    · cases hk
theorem ys_pop (hf : ev_f t pc = some (pp0, .pop, a, b, pp, v)) (hn : y_S h0 scx (rt, ini, mx, na, rc, fr, lo, mc, ms, t) (pc + 1) next) : y_S h0 scx (rt, ini, mx, na, rc, fr, lo, mc, ms, t) pc (yo_pop next) :=
  y_S_s hf hn fun L st h env kc ks outs hk ρ stc hsat hst => by
    unfold yo_pop at hk
    split at hk
    · rename_i x r
      split at hk
      · rename_i hq
        refine ⟨ρ, r, env, r.map (x_in ρ), outs, x_ext.rf, Nat.le_refl _, hsat, ⟨rfl, fun z hz => hst.2 z (by simp [hz])⟩, ?_, hk, fun _ h => h⟩
        rw [hst.1, List.map_cons, x_in0 (Nat.eq_of_beq_eq_true hq)]
        rfl
      · cases hk
    · cases hk
theorem ys_dup2 (hf : ev_f t pc = some (pp0, .dup2, a, b, pp, v)) (hn : y_S h0 scx (rt, ini, mx, na, rc, fr, lo, mc, ms, t) (pc + 1) next) : y_S h0 scx (rt, ini, mx, na, rc, fr, lo, mc, ms, t) pc (yo_dup2 next) :=
  y_S_s hf hn fun L st h env kc ks outs hk ρ stc hsat hst => by
    unfold yo_dup2 at hk
    split at hk
    · rename_i y st'
      split at hk
      · rename_i x r
        split at hk
        · rename_i hq
          rw [Bool.and_eq_true] at hq
          refine ⟨ρ, y :: x :: y :: x :: r, env, x_in ρ y :: x_in ρ x :: x_in ρ y :: x_in ρ x :: r.map (x_in ρ), outs, x_ext.rf, Nat.le_refl _, hsat, ⟨rfl, List.forall_mem_cons.mpr ⟨hst.2 y (by simp), List.forall_mem_cons.mpr ⟨hst.2 x (by simp), hst.2⟩⟩⟩, ?_, hk, fun _ h => h⟩
          rw [hst.1, List.map_cons, List.map_cons, x_in0 (Nat.eq_of_beq_eq_true hq.1)]
          rcases x_or02 hq.2 with h | h
          · rw [x_in0 h]; rfl
          · rw [x_in2 h]; rfl
        · cases hk
      · cases hk
    · cases hk
end XOP

end YYY
