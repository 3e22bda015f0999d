/-! rows of the symbols' machine: the stack, numbers -/
/-- a step: what K does is a step of ours and then what next does -/
theorem x_S_of {scx : Option (List xv)} {I : ev_I} {pc : Nat} {K : xK} (hK : ∀ L st h env kc ks outs, K L st h env kc ks = some outs → ∀ ρ sc Lc stc hc, x_rX env.length ρ scx sc → x_G ρ env L st h Lc stc hc →
    ∃ (next : xK) (pc' : Nat) (ρ' : Nat → Int) (L' st' : List xv) (h' : xH) (env' : xE) (kc' ks' : Nat) (Lc' : ev_L) (stc' : List Value) (hc' : ev_H) (outs' : List xo), x_S scx I pc' next ∧ x_ext env.length ρ ρ' ∧ env.length ≤ env'.length ∧ x_G ρ' env' L' st' h' Lc' stc' hc' ∧ next L' st' h' env' kc' ks' = some outs' ∧ (∀ o ∈ outs', o ∈ outs) ∧
      ∀ Q, x_W sc I pc' Lc' stc' hc' kc' ks' Q → x_W sc I pc Lc stc hc kc ks Q) : x_S scx I pc K := by
  intro L st h env kc ks outs hk ρ sc Lc stc hc hX hG Q hQ
  obtain ⟨next, pc', ρ', L', st', h', env', kc', ks', Lc', stc', hc', outs', g1, g2, g3, g4, g5, g6, g7⟩ := hK L st h env kc ks outs hk ρ sc Lc stc hc hX hG
  exact g7 Q (g1 L' st' h' env' kc' ks' outs' g5 ρ' sc Lc' stc' hc' (hX.up g2 g3) g4 Q (fun o ho => (hQ o (g6 o ho)).up g2 g3))
theorem x_G.up {ρ ρ' : Nat → Int} {env env' : xE} {L st st' : List xv} {h : xH} {Lc : ev_L} {stc stc' : List Value} {hc : ev_H} (hG : x_G ρ env L st h Lc stc hc) (he : x_ext env.length ρ ρ') (hn : env.length ≤ env'.length) (hs : x_sat ρ' env') (hst : x_rS env'.length ρ' st' stc') : x_G ρ' env' L st' h Lc stc' hc := ⟨hs, hG.2.1.up he hn, hst, hG.2.2.2.up he hn⟩
section XOP
variable {scx : Option (List xv)} {rt ini mx na rc fr lo mc ms : Nat} {t : ev_T} {pc pp0 a b pp : Nat} {i : Instr} {v : Value} {next : xK}
/-- a step on the stack alone -/
theorem x_S_s (hf : ev_f t pc = some (pp0, i, a, b, pp, v)) (hn : x_S scx (rt, ini, mx, na, rc, fr, lo, mc, ms, t) (pc + ev_len i) next) {K : xK} (hK : ∀ L st h env kc ks outs, K L st h env kc ks = some outs → ∀ ρ stc, x_sat ρ env → x_rS env.length ρ st stc →
    ∃ (ρ' : Nat → Int) (st' : List xv) (env' : xE) (stc' : List Value) (outs' : List xo), x_ext env.length ρ ρ' ∧ env.length ≤ env'.length ∧ x_sat ρ' env' ∧ x_rS env'.length ρ' st' stc' ∧ ev_s i v stc = some stc' ∧ next L st' h env' kc ks = some outs' ∧ ∀ o ∈ outs', o ∈ outs) : x_S scx (rt, ini, mx, na, rc, fr, lo, mc, ms, t) pc K := by
  refine x_S_of fun L st h env kc ks outs hk ρ sc Lc stc hc hX hG => ?_
  obtain ⟨ρ', st', env', stc', outs', g1, g2, g3, g4, g5, g6, g7⟩ := hK L st h env kc ks outs hk ρ stc hG.1 hG.2.2.1
  exact ⟨next, _, ρ', L, st', h, env', kc, ks, Lc, stc', hc, outs', hn, g1, g2, hG.up g1 g2 g3 g4, g6, g7, fun Q hQ => x_W_s hf g5 hQ⟩
def xo_push (w : xv) (next : xK) : xK := fun L st h env kc ks => next L (w :: st) h env kc ks
theorem xs_push (hf : ev_f t pc = some (pp0, i, a, b, pp, v)) (hn : x_S scx (rt, ini, mx, na, rc, fr, lo, mc, ms, t) (pc + ev_len i) next) {w : xv} (hw : w.2.1 = 0) (hs : ∀ ρ stc, ev_s i v stc = some (x_in ρ w :: stc)) : x_S scx (rt, ini, mx, na, rc, fr, lo, mc, ms, t) pc (xo_push w next) :=
  x_S_s hf hn fun L st h env kc ks outs hk ρ stc hsat hst => ⟨ρ, w :: st, env, x_in ρ w :: stc, outs, x_ext.rf, Nat.le_refl _, hsat, ⟨by rw [hst.1]; rfl, List.forall_mem_cons.mpr ⟨by show w.2.1 ≤ _; rw [hw]; exact Nat.zero_le _, hst.2⟩⟩, hs ρ stc, hk, fun _ h => h⟩
/-- two numbers, one comes back -/
def x_g2 (ka kb : Nat) (E : List Value → Option (List Value)) (g : xE → xv → xv → Option (xv × xE)) : Prop := ∀ env a b p ρ, g env a b = some p → a.1 = ka → b.1 = kb → x_sat ρ env → x_ok env.length a → x_ok env.length b → ∃ ρ', x_ext env.length ρ ρ' ∧ env.length ≤ p.2.length ∧ x_sat ρ' p.2 ∧ x_ok p.2.length p.1 ∧ ∀ r, E (x_in ρ b :: x_in ρ a :: r) = some (x_in ρ' p.1 :: r)
def xo_bin (ka kb : Nat) (g : xE → xv → xv → Option (xv × xE)) (next : xK) : xK := fun L st h env kc ks => match st with
  | b :: st' => match st' with
    | a :: r => match Nat.beq b.1 kb && Nat.beq a.1 ka with
      | true => match g env a b with
        | some p => next L (p.1 :: r) h p.2 kc ks
        | none => none
      | false => none
    | [] => none
  | [] => none
theorem xs_bin (hf : ev_f t pc = some (pp0, i, a, b, pp, v)) (hn : x_S scx (rt, ini, mx, na, rc, fr, lo, mc, ms, t) (pc + ev_len i) next) {ka kb : Nat} {g : xE → xv → xv → Option (xv × xE)} (hg : x_g2 ka kb (ev_s i v) g) : x_S scx (rt, ini, mx, na, rc, fr, lo, mc, ms, t) pc (xo_bin ka kb g next) :=
  x_S_s hf hn fun L st h env kc ks outs hk ρ stc hsat hst => by
    unfold xo_bin at hk
    split at hk
    · rename_i y st'
      split at hk
      · rename_i x r
        split at hk
        · rename_i hq
          split at hk
          · rename_i p hp
            rw [Bool.and_eq_true] at hq
            have q1 := Nat.eq_of_beq_eq_true hq.1
            have q2 := Nat.eq_of_beq_eq_true hq.2
            have o1 := hst.2 x (by simp)
            have o2 := hst.2 y (by simp)
            obtain ⟨ρ', g1, g2, g3, g4, g5⟩ := hg env x y p ρ hp q2 q1 hsat o1 o2
            have hr : ∀ z ∈ r, x_ok env.length z := fun z hz => hst.2 z (by simp [hz])
            refine ⟨ρ', p.1 :: r, p.2, x_in ρ' p.1 :: r.map (x_in ρ), outs, g1, g2, g3, ⟨by rw [List.map_cons, x_map_ext g1 hr], List.forall_mem_cons.mpr ⟨g4, fun z hz => (hr z hz).up g2⟩⟩, ?_, hk, fun _ h => h⟩
            rw [hst.1, List.map_cons, List.map_cons, g5]
          · cases hk
        · cases hk
      · cases hk
    · cases hk
/-- one number, one comes back -/
def x_g1 (k : Nat) (E : List Value → Option (List Value)) (g : xE → xv → Option (xv × xE)) : Prop := ∀ env a p ρ, g env a = some p → a.1 = k → x_sat ρ env → x_ok env.length a → ∃ ρ', x_ext env.length ρ ρ' ∧ env.length ≤ p.2.length ∧ x_sat ρ' p.2 ∧ x_ok p.2.length p.1 ∧ ∀ r, E (x_in ρ a :: r) = some (x_in ρ' p.1 :: r)
def xo_un (k : Nat) (g : xE → xv → Option (xv × xE)) (next : xK) : xK := fun L st h env kc ks => match st with
  | a :: r => match Nat.beq a.1 k with
    | true => match g env a with
      | some p => next L (p.1 :: r) h p.2 kc ks
      | none => none
    | false => none
  | [] => none
theorem xs_un (hf : ev_f t pc = some (pp0, i, a, b, pp, v)) (hn : x_S scx (rt, ini, mx, na, rc, fr, lo, mc, ms, t) (pc + ev_len i) next) {k : Nat} {g : xE → xv → Option (xv × xE)} (hg : x_g1 k (ev_s i v) g) : x_S scx (rt, ini, mx, na, rc, fr, lo, mc, ms, t) pc (xo_un k g next) :=
  x_S_s hf hn fun L st h env kc ks outs hk ρ stc hsat hst => by
    unfold xo_un at hk
    split at hk
    · rename_i x r
      split at hk
      · rename_i hq
        split at hk
        · rename_i p hp
          have q1 := Nat.eq_of_beq_eq_true hq
          have o1 := hst.2 x (by simp)
          obtain ⟨ρ', g1, g2, g3, g4, g5⟩ := hg env x p ρ hp q1 hsat o1
          have hr : ∀ z ∈ r, x_ok env.length z := fun z hz => hst.2 z (by simp [hz])
          refine ⟨ρ', p.1 :: r, p.2, x_in ρ' p.1 :: r.map (x_in ρ), outs, g1, g2, g3, ⟨by rw [List.map_cons, x_map_ext g1 hr], List.forall_mem_cons.mpr ⟨g4, fun z hz => (hr z hz).up g2⟩⟩, ?_, hk, fun _ h => h⟩
          rw [hst.1, List.map_cons, g5]
        · cases hk
      · cases hk
    · cases hk
def xo_dup (next : xK) : xK := fun L st h env kc ks => match st with
  | a :: r => match Nat.beq a.1 0 || Nat.beq a.1 2 with
    | true => next L (a :: a :: r) h env kc ks
    | false => none
  | [] => none
def xo_pop (next : xK) : xK := fun L st h env kc ks => match st with
  | a :: r => match Nat.beq a.1 0 with
    | true => next L r h env kc ks
    | false => none
  | [] => none
def xo_dup2 (next : xK) : xK := fun L st h env kc ks => match st with
  | b :: st' => match st' with
    | a :: r => match Nat.beq b.1 0 && (Nat.beq a.1 0 || Nat.beq a.1 2) with
      | true => next L (b :: a :: b :: a :: r) h env kc ks
      | false => none
    | [] => none
  | [] => none
theorem x_in0 {ρ : Nat → Int} {x : xv} (h : x.1 = 0) : x_in ρ x = .int (Int32.ofInt (x_vl ρ x)) := by unfold x_in; rw [h]; rfl
theorem x_in1 {ρ : Nat → Int} {x : xv} (h : x.1 = 1) : x_in ρ x = .long (Int64.ofInt (x_vl ρ x)) := by unfold x_in; rw [h]; rfl
theorem x_in2 {ρ : Nat → Int} {x : xv} (h : x.1 = 2) : x_in ρ x = .ref (x_vl ρ x).toNat := by unfold x_in; rw [h]; rfl
theorem x_in3 {ρ : Nat → Int} {x : xv} (h : x.1 = 3) : x_in ρ x = .retAddr 0 := by unfold x_in; rw [h]; rfl
theorem x_or02 {k : Nat} (h : (Nat.beq k 0 || Nat.beq k 2) = true) : k = 0 ∨ k = 2 := by
  rcases (Bool.or_eq_true _ _).mp h with h | h
  · exact Or.inl (Nat.eq_of_beq_eq_true h)
  · exact Or.inr (Nat.eq_of_beq_eq_true h)
theorem xs_dup (hf : ev_f t pc = some (pp0, .dup, a, b, pp, v)) (hn : x_S scx (rt, ini, mx, na, rc, fr, lo, mc, ms, t) (pc + 1) next) : x_S scx (rt, ini, mx, na, rc, fr, lo, mc, ms, t) pc (xo_dup next) :=
  x_S_s hf hn fun L st h env kc ks outs hk ρ stc hsat hst => by
    unfold xo_dup at hk
    split at hk
    · rename_i x r
      split at hk
      · rename_i hq
        refine ⟨ρ, x :: x :: r, env, x_in ρ x :: x_in ρ x :: r.map (x_in ρ), outs, x_ext.rf, Nat.le_refl _, hsat, ⟨rfl, List.forall_mem_cons.mpr ⟨hst.2 x (by simp), hst.2⟩⟩, ?_, hk, fun _ h => h⟩
        rw [hst.1, List.map_cons]
        rcases x_or02 hq with h | h
        · rw [x_in0 h]; rfl
        · rw [x_in2 h]; rfl
      · cases hk
    · cases hk
theorem xs_pop (hf : ev_f t pc = some (pp0, .pop, a, b, pp, v)) (hn : x_S scx (rt, ini, mx, na, rc, fr, lo, mc, ms, t) (pc + 1) next) : x_S scx (rt, ini, mx, na, rc, fr, lo, mc, ms, t) pc (xo_pop next) :=
  x_S_s hf hn fun L st h env kc ks outs hk ρ stc hsat hst => by
    unfold xo_pop at hk
    split at hk
    · rename_i x r
      split at hk
      · rename_i hq
        refine ⟨ρ, r, env, r.map (x_in ρ), outs, x_ext.rf, Nat.le_refl _, hsat, ⟨rfl, fun z hz => hst.2 z (by simp [hz])⟩, ?_, hk, fun _ h => h⟩
        rw [hst.1, List.map_cons, x_in0 (Nat.eq_of_beq_eq_true hq)]
        rfl
      · cases hk
    · cases hk
theorem xs_dup2 (hf : ev_f t pc = some (pp0, .dup2, a, b, pp, v)) (hn : x_S scx (rt, ini, mx, na, rc, fr, lo, mc, ms, t) (pc + 1) next) : x_S scx (rt, ini, mx, na, rc, fr, lo, mc, ms, t) pc (xo_dup2 next) :=
  x_S_s hf hn fun L st h env kc ks outs hk ρ stc hsat hst => by
    unfold xo_dup2 at hk
    split at hk
    · rename_i y st'
      split at hk
      · rename_i x r
        split at hk
        · rename_i hq
          rw [Bool.and_eq_true] at hq
          refine ⟨ρ, y :: x :: y :: x :: r, env, x_in ρ y :: x_in ρ x :: x_in ρ y :: x_in ρ x :: r.map (x_in ρ), outs, x_ext.rf, Nat.le_refl _, hsat, ⟨rfl, List.forall_mem_cons.mpr ⟨hst.2 y (by simp), List.forall_mem_cons.mpr ⟨hst.2 x (by simp), hst.2⟩⟩⟩, ?_, hk, fun _ h => h⟩
          rw [hst.1, List.map_cons, List.map_cons, x_in0 (Nat.eq_of_beq_eq_true hq.1)]
          rcases x_or02 hq.2 with h | h
          · rw [x_in0 h]; rfl
          · rw [x_in2 h]; rfl
        · cases hk
      · cases hk
    · cases hk
end XOP
