/-! calls of the symbols' machine -/
noncomputable def x_pops (n : Nat) : List xv → List xv → Option (List xv × List xv) := Nat.rec (motive := fun _ => List xv → List xv → Option (List xv × List xv)) (fun st acc => some (acc, st)) (fun _ ih st acc => match st with
  | v :: r => ih r (v :: acc)
  | [] => none) n
theorem x_pops_ok : ∀ (n : Nat) {st acc as r : List xv}, x_pops n st acc = some (as, r) → n ≤ st.length ∧ as = (st.take n).reverse ++ acc ∧ r = st.drop n := by
  intro n
  induction n with
  | zero =>
    intro st acc as r h
    cases h
    exact ⟨Nat.zero_le _, rfl, rfl⟩
  | succ n ih =>
    intro st acc as r h
    cases st with
    | nil => cases h
    | cons v st =>
      have h : x_pops n st (v :: acc) = some (as, r) := h
      obtain ⟨h1, h2, h3⟩ := ih h
      refine ⟨Nat.succ_le_succ h1, ?_, h3⟩
      rw [h2, List.take_succ_cons, List.reverse_cons, List.append_assoc]
      rfl
noncomputable def x_sq (f : xo → xR) (os : List xo) : xR := List.rec (motive := fun _ => xR) (some []) (fun o _ ih => match f o with
  | none => none
  | some l => match ih with
    | none => none
    | some l2 => some (l ++ l2)) os
theorem x_sq_ok {f : xo → xR} : ∀ {os : List xo} {res : List xo}, x_sq f os = some res → ∀ o ∈ os, ∃ l, f o = some l ∧ ∀ x ∈ l, x ∈ res := by
  intro os
  induction os with
  | nil => intro res _ o ho; cases ho
  | cons o0 os ih =>
    intro res h o ho
    have h : (match f o0 with
      | none => none
      | some l => match x_sq f os with
        | none => none
        | some l2 => some (l ++ l2)) = some res := h
    cases h1 : f o0 with
    | none => rw [h1] at h; cases h
    | some l =>
      rw [h1] at h
      dsimp only at h
      cases h2 : x_sq f os with
      | none => rw [h2] at h; cases h
      | some l2 =>
        rw [h2] at h
        cases h
        rcases List.mem_cons.mp ho with rfl | ho
        · exact ⟨l, h1, fun x z => List.mem_append_left _ z⟩
        · obtain ⟨l', i1, i2⟩ := ih h2 o ho
          exact ⟨l', i1, fun x z => List.mem_append_right _ (i2 x z)⟩
noncomputable def x_rcv (rc : Nat) (h : xH) (p : List xv × List xv) : Option (List xv × List xv) := match rc with
  | 0 => some p
  | c + 1 => match p.2 with
    | v :: r => match x_cl h v with
      | some z => match Nat.beq z.2.1 2 && Nat.beq z.2.2.1 c with
        | true => some (v :: p.1, r)
        | false => none
      | none => none
    | [] => none
theorem x_ar_ok {rc na : Nat} {h : xH} {st : List xv} {p q : List xv × List xv} (hp : x_pops na st [] = some p) (hq : x_rcv rc h p = some q) {n : Nat} {ρ : Nat → Int} {hc : ev_H} (hh : x_rH n ρ h hc) (hst : ∀ v ∈ st, x_ok n v) : ev_ar rc na (st.map (x_in ρ)) hc = some (q.1.map (x_in ρ), q.2.map (x_in ρ)) ∧ (∀ v ∈ q.1, x_ok n v) ∧ ∀ v ∈ q.2, x_ok n v := by
  obtain ⟨as, r⟩ := p
  obtain ⟨h1, h2, h3⟩ := x_pops_ok na hp
  rw [List.append_nil] at h2
  have oa : ∀ v ∈ as, x_ok n v := fun v hv => hst v (List.mem_of_mem_take (List.mem_reverse.mp (by rw [← h2]; exact hv)))
  have or : ∀ v ∈ r, x_ok n v := fun v hv => hst v (List.mem_of_mem_drop (by rw [← h3]; exact hv))
  have m1 : ((st.map (x_in ρ)).take na).reverse = as.map (x_in ρ) := by rw [h2, List.map_reverse, List.map_take]
  have m2 : (st.map (x_in ρ)).drop na = r.map (x_in ρ) := by rw [h3, List.map_drop]
  unfold x_rcv at hq
  split at hq
  · cases hq
    refine ⟨?_, oa, or⟩
    show (if na ≤ (st.map (x_in ρ)).length then some (((st.map (x_in ρ)).take na).reverse, (st.map (x_in ρ)).drop na) else none) = _
    rw [if_pos (by rw [List.length_map]; exact h1), m1, m2]
  · rename_i c
    split at hq
    · rename_i v r' hv
      have hv : r = v :: r' := hv
      subst hv
      split at hq
      · rename_i z hz
        split at hq
        · rename_i hb
          cases hq
          obtain ⟨q0, c0⟩ := z
          obtain ⟨g1, g2, cc, g3, g4⟩ := x_cl_ok hz hh
          rw [Bool.and_eq_true] at hb
          obtain ⟨fs, e1, e2⟩ := x_rC2 g4 (Nat.eq_of_beq_eq_true hb.1)
          subst e1
          refine ⟨?_, List.forall_mem_cons.mpr ⟨or v (by simp), oa⟩, fun w hw => or w (by simp [hw])⟩
          show (match (st.map (x_in ρ)).drop na with
            | .ref q :: r => match hc[q]? with
              | some (.inr (.inr o)) => match Nat.beq o.1 c with
                | true => some (Value.ref q :: ((st.map (x_in ρ)).take na).reverse, r)
                | false => none
              | _ => none
            | _ => none) = _
          rw [m2, m1, List.map_cons, g1]
          dsimp only
          rw [g3]
          dsimp only
          rw [hb.2]
          dsimp only
          rw [List.map_cons, g1]
        · cases hq
      · cases hq
    · cases hq
noncomputable def xo_cl (m : xM) (rc na mx' mc' ms' mc ms : Nat) (next : xK) : xK := fun L st h env kc ks => match x_pops na st [] with
  | none => none
  | some p => match x_rcv rc h p with
    | none => none
    | some q => match Nat.ble (x_cs q.2) 8 && (Nat.ble (x_cs q.1) mx' && (Nat.ble (kc + mc') mc && Nat.ble (ks + ms') ms)) with
      | false => none
      | true => match m q.1 h env with
        | none => none
        | some outs => x_sq (fun o => match o.2.2.1 with
          | [] => next L q.2 o.2.2.2.1 o.2.2.2.2.1 (kc + mc') (ks + ms')
          | v :: r => match r with
            | [] => next L (v :: q.2) o.2.2.2.1 o.2.2.2.2.1 (kc + mc') (ks + ms')
            | _ :: _ => none) outs
section XCA
variable {scx : Option (List xv)} {rt ini mx na rc fr lo mc ms : Nat} {t : ev_T} {pc pp0 a b pp : Nat} {i : Instr} {v : Value} {next : xK}
theorem xs_cl (hf : ev_f t pc = some (pp0, i, a, b, pp, v)) (hk0 : ev_k i b = some 0) {rt' ini' mx' na' rc' fr' lo' mc' ms' : Nat} {t' : ev_T} {q9 : MethodName × ByteArray × Option FieldType × Nat × Nat × Nat × Nat} (hm : ev_ms a = some ((rt', ini', mx', na', rc', fr', lo', mc', ms', t'), q9))
    (hfit : (ev_fit i (rt', ini', mx', na', rc', fr', lo', mc', ms', t') && (Nat.ble (fr' + 1) fr && Nat.ble (8 + (mx' + 11) + lo') lo)) = true) {m : xM} (hM : x_Ma a m) (hn : x_S scx (rt, ini, mx, na, rc, fr, lo, mc, ms, t) (pc + 3) next) : x_S scx (rt, ini, mx, na, rc, fr, lo, mc, ms, t) pc (xo_cl m rc' na' mx' mc' ms' mc ms next) := by
  intro L st h env kc ks outs hk ρ sc Lc stc hc hX hG Q hQ
  obtain ⟨hsat, hL, hst, hh⟩ := hG
  unfold xo_cl at hk
  split at hk
  · cases hk
  · rename_i p hp
    split at hk
    · cases hk
    · rename_i q hq
      split at hk
      · cases hk
      · rename_i hb
        split at hk
        · cases hk
        · rename_i os hos
          obtain ⟨ar, oa, or⟩ := x_ar_ok hp hq hh hst.2
          have hfit' := hfit
          simp only [Bool.and_eq_true] at hb hfit'
          obtain ⟨b1, b2, b3, b4⟩ := hb
          refine x_W_k hf hk0 hm (as := q.1.map (x_in ρ)) (r := q.2.map (x_in ρ)) (by rw [hst.1]; exact ar) ?_ ?_
          · rw [x_cs_ok, x_cs_ok, hfit'.1, hfit'.2.1, hfit'.2.2, b1, b2, b3, b4]
            rfl
          · refine hM _ hm q.1 h env os hos ρ hc hsat oa hh _ (fun o ho ρ' hc' e1 e2 e3 e4 e5 => ?_)
            obtain ⟨l, l1, l2⟩ := x_sq_ok hk o ho
            have hl2 : ∀ x ∈ l, x_O sc (rt, ini, mx, na, rc, fr, lo, mc, ms, t) Q ρ' o.2.2.2.2.1.length x := fun x hx => (hQ x (l2 x hx)).up e1 e2
            have hrr : x_rS o.2.2.2.2.1.length ρ' q.2 (q.2.map (x_in ρ)) := x_rS.up ⟨rfl, or⟩ e1 e2
            split at l1
            · rename_i h0
              rw [h0]
              exact hn L q.2 o.2.2.2.1 o.2.2.2.2.1 _ _ l l1 ρ' sc Lc _ hc' (hX.up e1 e2) ⟨e3, hL.up e1 e2, hrr, e5⟩ Q hl2
            · rename_i w r9 h0
              split at l1
              · rw [h0]
                refine hn L (w :: q.2) o.2.2.2.1 o.2.2.2.2.1 _ _ l l1 ρ' sc Lc _ hc' (hX.up e1 e2) ⟨e3, hL.up e1 e2, ⟨?_, List.forall_mem_cons.mpr ⟨e4 w (by rw [h0]; simp), hrr.2⟩⟩, e5⟩ Q hl2
                show x_in ρ' w :: q.2.map (x_in ρ) = x_in ρ' w :: q.2.map (x_in ρ')
                rw [← hrr.1]
              · cases l1
noncomputable def xo_oi (fr lo : Nat) (next : xK) : xK := fun L st h env kc ks => match st with
  | v :: r => match Nat.beq v.1 2 && (Nat.ble 1 fr && Nat.ble (x_cs r + 12) lo) with
    | true => next L r h env kc ks
    | false => none
  | [] => none
theorem xs_oi (hf : ev_f t pc = some (pp0, i, a, b, pp, v)) (hk1 : ev_k i b = some 1) (hn : x_S scx (rt, ini, mx, na, rc, fr, lo, mc, ms, t) (pc + 3) next) : x_S scx (rt, ini, mx, na, rc, fr, lo, mc, ms, t) pc (xo_oi fr lo next) := by
  refine x_S_of fun L st h env kc ks outs hk ρ sc Lc stc hc hX hG => ?_
  obtain ⟨hsat, hL, hst, hh⟩ := hG
  unfold xo_oi at hk
  split at hk
  · rename_i x r
    split at hk
    · rename_i hb
      simp only [Bool.and_eq_true] at hb
      obtain ⟨b1, b2, b3⟩ := hb
      refine ⟨next, pc + 3, ρ, L, r, h, env, kc, ks, Lc, r.map (x_in ρ), hc, outs, hn, x_ext.rf, Nat.le_refl _, ⟨hsat, hL, ⟨rfl, fun z hz => hst.2 z (by simp [hz])⟩, hh⟩, hk, fun _ z => z, fun Q hQ => x_W_o hf hk1 (q := (x_vl ρ x).toNat) (r := r.map (x_in ρ)) ?_ (Nat.le_of_ble_eq_true b2) (by rw [x_cs_ok]; exact Nat.le_of_ble_eq_true b3) hQ⟩
      rw [hst.1, List.map_cons, x_in2 (Nat.eq_of_beq_eq_true b1)]
    · cases hk
  · cases hk
/-- a symbol's range cut in two -/
noncomputable def xo_cut (s : Nat) (c : Int) (K : xK) : xK := fun L st h env kc ks => x_fk (x_rl 1 env (0, s + 1, 0) (0, 0, c)) (fun e => K L st h e kc ks) (x_rl 0 env (0, 0, c) (0, s + 1, 0)) (fun e => K L st h e kc ks)
theorem xs_cut {I : ev_I} {s : Nat} {c : Int} {K : xK} (hK : x_S scx I pc K) : x_S scx I pc (xo_cut s c K) := by
  refine x_S_of fun L st h env kc ks outs hk ρ sc Lc stc hc hX hG => ?_
  obtain ⟨hsat, hL, hst, hh⟩ := hG
  have hk : x_fk (x_rl 1 env (0, s + 1, 0) (0, 0, c)) (fun e => K L st h e kc ks) (x_rl 0 env (0, 0, c) (0, s + 1, 0)) (fun e => K L st h e kc ks) = some outs := hk
  have fin : ∀ (env' : xE) (l : List xo), x_sat ρ env' → env'.length = env.length → K L st h env' kc ks = some l → (∀ o ∈ l, o ∈ outs) → ∃ (next : xK) (pc' : Nat) (ρ' : Nat → Int) (L' st' : List xv) (h' : xH) (env' : xE) (kc' ks' : Nat) (Lc' : ev_L) (stc' : List Value) (hc' : ev_H) (outs' : List xo), x_S scx I pc' next ∧ x_ext env.length ρ ρ' ∧ env.length ≤ env'.length ∧ x_G ρ' env' L' st' h' Lc' stc' hc' ∧ next L' st' h' env' kc' ks' = some outs' ∧ (∀ o ∈ outs', o ∈ outs) ∧
      ∀ Q, x_W sc I pc' Lc' stc' hc' kc' ks' Q → x_W sc I pc Lc stc hc kc ks Q := fun env' l e1 e2 e3 e4 =>
    ⟨K, pc, ρ, L, st, h, env', kc, ks, Lc, stc, hc, l, hK, x_ext.rf, Nat.le_of_eq e2.symm, ⟨e1, by rw [e2]; exact hL, by rw [e2]; exact hst, by rw [e2]; exact hh⟩, e3, e4, fun Q hQ => hQ⟩
  by_cases h1 : ρ s < c
  · obtain ⟨e1, g1, g2, g3⟩ := x_rl_ok (k := 1) (a := (0, s + 1, 0)) (b := (0, 0, c)) hsat (by show ρ s + 0 + 1 ≤ c; omega)
    obtain ⟨l, l1, l2⟩ := x_fk_1 hk g1
    exact fin e1 l g2 g3 l1 l2
  · obtain ⟨e1, g1, g2, g3⟩ := x_rl_ok (k := 0) (a := (0, 0, c)) (b := (0, s + 1, 0)) hsat (by show c + 0 ≤ ρ s + 0; omega)
    obtain ⟨l, l1, l2⟩ := x_fk_2 hk g1
    exact fin e1 l g2 g3 l1 l2
end XCA
def x_nop : xK := fun _ _ _ _ _ _ => none
theorem xs_nop {scx : Option (List xv)} {I : ev_I} {pc : Nat} : x_S scx I pc x_nop := fun _ _ _ _ _ _ _ h => by cases h
