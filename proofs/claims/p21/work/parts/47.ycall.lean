/-! calls over the other heap: in line, or by contract -/
/-- what a contract takes, what it answers, what it may write -/
abbrev yCt : Type := List yF × Option yF × yMd
def y_rA (f : yF) (v : Value) : Prop := match f.1 with
  | 2 => ∃ k : Nat, v = .ref k ∧ f.2.1 ≤ (k : Int) ∧ (k : Int) ≤ f.2.2.1
  | _ => y_rF f v
def y_args (fs : List yF) (as : List Value) : Prop := fs.length = as.length ∧ ∀ (k : Nat) (f : yF) (v : Value), fs[k]? = some f → as[k]? = some v → y_rA f v
def y_ret (f : Option yF) (r : Option Value) : Prop := match f with
  | none => r = none
  | some f => f.1 < 2 ∧ ∃ v, r = some v ∧ y_rF f v
/-- a method keeps its contract -/
def y_Mc (g : yQ) (I : ev_I) (ct : yCt) : Prop := ∀ hc as, y_in g hc → y_args ct.1 as → x_W none I 0 (lv_args 0 as) [] hc 0 0 (fun r hc' => y_ret ct.2.1 r ∧ y_in g hc' ∧ y_un ct.2.2 hc hc')
def y_Mca (g : yQ) (a : Nat) (ct : yCt) : Prop := ∀ r, ev_ms a = some r → y_Mc g r.1 ct
def y_Mt (h0 : yQ × ev_H) (I : ev_I) (m : List xv → yH → xE → yR) : Prop := ∀ as h env outs, m as h env = some outs → ∀ ρ hc, x_sat ρ env → (∀ v ∈ as, x_ok env.length v) → y_rH h0 env.length ρ h hc → ∀ Q : Option Value → ev_H → Prop,
  (∀ o ∈ outs, ∀ ρ' hc', x_ext env.length ρ ρ' → env.length ≤ o.2.2.2.2.1.length → x_sat ρ' o.2.2.2.2.1 → (∀ v ∈ o.2.2.1, x_ok o.2.2.2.2.1.length v) → y_rH h0 o.2.2.2.2.1.length ρ' o.2.2.2.1 hc' → Q ((o.2.2.1.map (x_in ρ')).head?) hc') → x_W none I 0 (lv_args 0 (as.map (x_in ρ))) [] hc 0 0 Q
def y_Ma (h0 : yQ × ev_H) (a : Nat) (m : List xv → yH → xE → yR) : Prop := ∀ r, ev_ms a = some r → y_Mt h0 r.1 m
noncomputable def y_rcv (g : yQ) (rc : Nat) (p : List xv × List xv) : Option (List xv × List xv) := match rc with
  | 0 => some p
  | c + 1 => match p.2 with
    | v :: r => match Nat.beq v.1 2 && Nat.beq v.2.1 0 with
      | true => match x_g g v.2.2.toNat with
        | some z => match Nat.beq z.1 2 && Nat.beq z.2.1 c with
          | true => some (v :: p.1, r)
          | false => none
        | none => none
      | false => none
    | [] => none
theorem y_ar_ok {g : yQ} {rc na : Nat} {st : List xv} {p q : List xv × List xv} (hp : x_pops na st [] = some p) (hq : y_rcv g rc p = some q) {n : Nat} {ρ : Nat → Int} {hc : ev_H} (hin : y_in g hc) (hst : ∀ v ∈ st, x_ok n v) : ev_ar rc na (st.map (x_in ρ)) hc = some (q.1.map (x_in ρ), q.2.map (x_in ρ)) ∧ (∀ v ∈ q.1, x_ok n v) ∧ ∀ v ∈ q.2, x_ok n v := by
  obtain ⟨as, r⟩ := p
  obtain ⟨h1, h2, h3⟩ := x_pops_ok na hp
  rw [List.append_nil] at h2
  have oa : ∀ v ∈ as, x_ok n v := fun v hv => hst v (List.mem_of_mem_take (List.mem_reverse.mp (by rw [← h2]; exact hv)))
  have or : ∀ v ∈ r, x_ok n v := fun v hv => hst v (List.mem_of_mem_drop (by rw [← h3]; exact hv))
  have m1 : ((st.map (x_in ρ)).take na).reverse = as.map (x_in ρ) := by rw [h2, List.map_reverse, List.map_take]
  have m2 : (st.map (x_in ρ)).drop na = r.map (x_in ρ) := by rw [h3, List.map_drop]
  unfold y_rcv at hq
  split at hq
  · cases hq
    refine ⟨?_, oa, or⟩
    show (if na ≤ (st.map (x_in ρ)).length then some (((st.map (x_in ρ)).take na).reverse, (st.map (x_in ρ)).drop na) else none) = _
    rw [if_pos (by rw [List.length_map]; exact h1), m1, m2]
  · rename_i c
    split at hq
    · rename_i v r' hv
      have hv : r = v :: r' := hv
      subst hv
      split at hq
      · rename_i hb0
        rw [Bool.and_eq_true] at hb0
        split at hq
        · rename_i z hz
          split at hq
          · rename_i hb
            cases hq
            rw [Bool.and_eq_true] at hb
            obtain ⟨cc, g3, g4⟩ := hin _ z hz
            obtain ⟨z1, z2, z3, z4⟩ := z
            have b1 : z1 = 2 := Nat.eq_of_beq_eq_true hb.1
            have b2 : z2 = c := Nat.eq_of_beq_eq_true hb.2
            subst b1
            subst b2
            obtain ⟨fs, e1, e2⟩ := g4
            subst e1
            have g1 : x_in ρ v = .ref v.2.2.toNat := by rw [x_in2 (Nat.eq_of_beq_eq_true hb0.1), x_vl0 (Nat.eq_of_beq_eq_true hb0.2)]
            refine ⟨?_, List.forall_mem_cons.mpr ⟨or v (by simp), oa⟩, fun w hw => or w (by simp [hw])⟩
            show (match (st.map (x_in ρ)).drop na with
              | .ref q :: r => match hc[q]? with
                | some (.inr (.inr o)) => match Nat.beq o.1 z2 with
                  | true => some (Value.ref q :: ((st.map (x_in ρ)).take na).reverse, r)
                  | false => none
                | _ => none
              | _ => none) = _
            rw [m2, m1, List.map_cons, g1]
            dsimp only
            rw [g3]
            dsimp only
            rw [Nat.beq_refl]
            dsimp only
            rw [List.map_cons, g1]
          · cases hq
        · cases hq
      · cases hq
    · cases hq
noncomputable def y_sq (f : yo → yR) (os : List yo) : yR := List.rec (motive := fun _ => yR) (some []) (fun o _ ih => match f o with
  | none => none
  | some l => match ih with
    | none => none
    | some l2 => some (l ++ l2)) os
theorem y_sq_ok {f : yo → yR} : ∀ {os : List yo} {res : List yo}, y_sq f os = some res → ∀ o ∈ os, ∃ l, f o = some l ∧ ∀ x ∈ l, x ∈ res := by
  intro os
  induction os with
  | nil => intro res _ o ho; cases ho
  | cons o0 os ih =>
    intro res h o ho
    have h : (match f o0 with
      | none => none
      | some l => match y_sq f os with
        | none => none
        | some l2 => some (l ++ l2)) = some res := h
    cases h1 : f o0 with
    | none => rw [h1] at h; cases h
    | some l =>
      rw [h1] at h
      dsimp only at h
      cases h2 : y_sq f os with
      | none => rw [h2] at h; cases h
      | some l2 =>
        rw [h2] at h
        cases h
        rcases List.mem_cons.mp ho with rfl | ho
        · exact ⟨l, h1, fun x z => List.mem_append_left _ z⟩
        · obtain ⟨l', i1, i2⟩ := ih h2 o ho
          exact ⟨l', i1, fun x z => List.mem_append_right _ (i2 x z)⟩
noncomputable def yo_cl (g : yQ) (m : List xv → yH → xE → yR) (rc na mx' mc' ms' mc ms : Nat) (next : yK) : yK := fun L st h env kc ks => match x_pops na st [] with
  | none => none
  | some p => match y_rcv g rc p with
    | none => none
    | some q => match Nat.ble (x_cs q.2) 8 && (Nat.ble (x_cs q.1) mx' && (Nat.ble (kc + mc') mc && Nat.ble (ks + ms') ms)) with
      | false => none
      | true => match m q.1 h env with
        | none => none
        | some outs => y_sq (fun o => match o.2.2.1 with
          | [] => next L q.2 o.2.2.2.1 o.2.2.2.2.1 (kc + mc') (ks + ms')
          | v :: r => match r with
            | [] => next L (v :: q.2) o.2.2.2.1 o.2.2.2.2.1 (kc + mc') (ks + ms')
            | _ :: _ => none) outs
/-- does a value fit what a contract takes? -/
noncomputable def y_ck (env : xE) (f : yF) (v : xv) : Bool := match Nat.beq f.1 v.1 with
  | false => false
  | true => match f.1 with
    | 2 => x_wi f.2.1 f.2.2.1 env v && x_le 0 f.2.1
    | _ => y_wi f.2 env v && y_rg env v
theorem y_ck_ok {env : xE} {f : yF} {v : xv} {ρ : Nat → Int} (hsat : x_sat ρ env) (h : y_ck env f v = true) : y_rA f (x_in ρ v) := by
  unfold y_ck at h
  split at h
  · cases h
  · rename_i hb
    have hb := Nat.eq_of_beq_eq_true hb
    unfold y_rA
    split at h
    · rename_i h2
      rw [Bool.and_eq_true] at h
      obtain ⟨w1, w2⟩ := x_wi_ok hsat h.1
      have w0 := x_le_iff.mp h.2
      exact ⟨(x_vl ρ v).toNat, x_in2 (by rw [← hb]; exact h2), by omega, by omega⟩
    · rename_i h2
      rw [Bool.and_eq_true] at h
      exact y_rf_ok hsat hb h.1 h.2
noncomputable def y_cks (env : xE) (fs : List yF) : List xv → Bool := List.rec (motive := fun _ => List xv → Bool) (fun vs => match vs with
  | [] => true
  | _ :: _ => false) (fun f _ ih vs => match vs with
  | v :: r => match y_ck env f v with
    | true => ih r
    | false => false
  | [] => false) fs
theorem y_cks_ok {env : xE} {ρ : Nat → Int} (hsat : x_sat ρ env) : ∀ {fs : List yF} {vs : List xv}, y_cks env fs vs = true → y_args fs (vs.map (x_in ρ)) := by
  intro fs
  induction fs with
  | nil =>
    intro vs h
    cases vs with
    | nil => exact ⟨rfl, fun k f v hk => by cases hk⟩
    | cons v r => cases h
  | cons f fs ih =>
    intro vs h
    cases vs with
    | nil => cases h
    | cons v r =>
      have h : (match y_ck env f v with
        | true => y_cks env fs r
        | false => false) = true := h
      cases hc : y_ck env f v with
      | false => rw [hc] at h; cases h
      | true =>
        rw [hc] at h
        obtain ⟨h1, h2⟩ := ih h
        refine ⟨by rw [List.map_cons, List.length_cons, List.length_cons, h1], fun k f' v' hk hv => ?_⟩
        cases k with
        | zero =>
          cases hk
          cases hv
          exact y_ck_ok hsat hc
        | succ k => exact h2 k f' v' hk hv
noncomputable def y_sub (md : yMd) (ms : yMd) : Bool := List.rec (motive := fun _ => Bool) true (fun e _ ih => match y_md e.1 e.2.1 e.2.2 md with
  | true => ih
  | false => false) ms
theorem y_sub_ok {md : yMd} : ∀ {ms : yMd}, y_sub md ms = true → ∀ q i, y_cov ms q i → y_cov md q i := by
  intro ms
  induction ms with
  | nil => intro _ q i h; obtain ⟨e, he, -⟩ := h; cases he
  | cons e ms ih =>
    intro h q i hc
    have h : (match y_md e.1 e.2.1 e.2.2 md with
      | true => y_sub md ms
      | false => false) = true := h
    cases hb : y_md e.1 e.2.1 e.2.2 md with
    | false => rw [hb] at h; cases h
    | true =>
      rw [hb] at h
      obtain ⟨e', he, h1, h2, h3⟩ := hc
      rcases List.mem_cons.mp he with rfl | he
      · rw [← h1]
        exact y_md_ok hb i h2 h3
      · exact ih h q i ⟨e', he, h1, h2, h3⟩
noncomputable def y_drs (ms : yMd) (ka : yKa) : yKa := List.rec (motive := fun _ => yKa) ka (fun e _ ih => y_dr e.1 e.1 e.2.1 e.2.2 ih) ms
theorem y_drs_ok {ka : yKa} {e : Nat × Nat × xv} : ∀ {ms : yMd}, e ∈ y_drs ms ka → e ∈ ka ∧ ¬ y_cov ms e.1 e.2.1 := by
  intro ms
  induction ms with
  | nil => intro h; exact ⟨h, fun hc => by obtain ⟨e', he, -⟩ := hc; cases he⟩
  | cons m ms ih =>
    intro h
    have h : e ∈ y_dr m.1 m.1 m.2.1 m.2.2 (y_drs ms ka) := h
    obtain ⟨h1, h2⟩ := y_dr_ok h
    obtain ⟨h3, h4⟩ := ih h1
    refine ⟨h3, fun hc => ?_⟩
    obtain ⟨e', he, i1, i2, i3⟩ := hc
    rcases List.mem_cons.mp he with rfl | he
    · exact h2 ⟨by omega, by omega, i2, i3⟩
    · exact h4 ⟨e', he, i1, i2, i3⟩
noncomputable def yo_ct (g : yQ) (ct : yCt) (rc na mx' mc' ms' mc ms : Nat) (next : yK) : yK := fun L st h env kc ks => match x_pops na st [] with
  | none => none
  | some p => match y_rcv g rc p with
    | none => none
    | some q => match Nat.ble (x_cs q.2) 8 && (Nat.ble (x_cs q.1) mx' && (Nat.ble (kc + mc') mc && (Nat.ble (ks + ms') ms && (y_cks env ct.1 q.1 && y_sub h.1 ct.2.2)))) with
      | false => none
      | true => match ct.2.1 with
        | none => next L q.2 (h.1, y_drs ct.2.2 h.2.1, h.2.2) env (kc + mc') (ks + ms')
        | some f => next L (x_kv (x_nw f.1 f.2 env).2 (x_nw f.1 f.2 env).1 :: q.2) (h.1, y_drs ct.2.2 h.2.1, h.2.2) (x_nw f.1 f.2 env).2 (kc + mc') (ks + ms')
section YCA
variable {h0 : yQ × ev_H} {scx : yX} {rt ini mx na rc fr lo mc ms : Nat} {t : ev_T} {pc pp0 a b pp : Nat} {i : Instr} {v : Value} {next : yK}
theorem y_un.tr {md ms : yMd} {h0 hc hc' : ev_H} (h : y_un md h0 hc) (h' : y_un ms hc hc') (hs : ∀ q i, y_cov ms q i → y_cov md q i) : y_un md h0 hc' := fun q i hn => (h' q i (fun z => hn (hs q i z))).trans (h q i hn)
theorem ys_ct (hf : ev_f t pc = some (pp0, i, a, b, pp, v)) (hk0 : ev_k i b = some 0) {rt' ini' mx' na' rc' fr' lo' mc' ms' : Nat} {t' : ev_T} {q9 : MethodName × ByteArray × Option FieldType × Nat × Nat × Nat × Nat} (hm : ev_ms a = some ((rt', ini', mx', na', rc', fr', lo', mc', ms', t'), q9))
    (hfit : (ev_fit i (rt', ini', mx', na', rc', fr', lo', mc', ms', t') && (Nat.ble (fr' + 1) fr && Nat.ble (8 + (mx' + 11) + lo') lo)) = true) {ct : yCt} (hM : y_Mca h0.1 a ct) (hn : y_S h0 scx (rt, ini, mx, na, rc, fr, lo, mc, ms, t) (pc + 3) next) :
    y_S h0 scx (rt, ini, mx, na, rc, fr, lo, mc, ms, t) pc (yo_ct h0.1 ct rc' na' mx' mc' ms' mc ms next) := by
  intro L st h env kc ks outs hk ρ sc Lc stc hc hX hG Q hQ
  obtain ⟨hsat, hL, hst, hin, hun, hca, hvn⟩ := hG
  unfold yo_ct at hk
  split at hk
  · cases hk
  · rename_i p hp
    split at hk
    · cases hk
    · rename_i q hq
      split at hk
      · cases hk
      · rename_i hb
        obtain ⟨ar, oa, or⟩ := y_ar_ok hp hq hin hst.2
        have hfit' := hfit
        simp only [Bool.and_eq_true] at hb hfit'
        obtain ⟨b1, b2, b3, b4, b5, b6⟩ := hb
        refine x_W_k hf hk0 hm (as := q.1.map (x_in ρ)) (r := q.2.map (x_in ρ)) (by rw [hst.1]; exact ar) ?_ ?_
        · rw [x_cs_ok, x_cs_ok, hfit'.1, hfit'.2.1, hfit'.2.2, b1, b2, b3, b4]
          rfl
        · obtain ⟨n, r, hc', e1, e2, e3, e4⟩ := hM _ hm hc (q.1.map (x_in ρ)) hin (y_cks_ok hsat b5)
          refine ⟨n, r, hc', e1, ?_⟩
          have hun' : y_un h.1 h0.2 hc' := hun.tr e4 (y_sub_ok b6)
          have hca' : y_ca env.length ρ (y_drs ct.2.2 h.2.1) hc' := fun e he => by
            obtain ⟨m1, m2⟩ := y_drs_ok he
            obtain ⟨n1, n2, n3⟩ := hca e m1
            exact ⟨n1, n2, by rw [e4 _ _ m2]; exact n3⟩
          split at hk
          · rename_i hr
            rw [hr] at e2
            have e2 : r = none := e2
            subst e2
            exact hn L q.2 _ env _ _ outs hk ρ sc Lc _ hc' hX ⟨hsat, hL, ⟨rfl, or⟩, e3, hun', hca', hvn⟩ Q hQ
          · rename_i f hr
            rw [hr] at e2
            obtain ⟨f2, w, w1, w2⟩ := e2
            subst w1
            have fin : ∀ ρ', x_ext env.length ρ ρ' → env.length ≤ (x_nw f.1 f.2 env).2.length → x_sat ρ' (x_nw f.1 f.2 env).2 → x_ok (x_nw f.1 f.2 env).2.length (x_nw f.1 f.2 env).1 → x_in ρ' (x_nw f.1 f.2 env).1 = w → x_W sc (rt, ini, mx, na, rc, fr, lo, mc, ms, t) (pc + 3) Lc ((some w).toList ++ q.2.map (x_in ρ)) hc' (kc + mc') (ks + ms') Q := by
              intro ρ' r1 r2 r3 r4 r5
              obtain ⟨-, v2, -, v4⟩ := x_kv_ok (v := (x_nw f.1 f.2 env).1) r3
              refine hn L _ _ (x_nw f.1 f.2 env).2 _ _ outs hk ρ' sc Lc _ hc' (hX.up r1 r2) ⟨r3, hL.up r1 r2, ⟨?_, List.forall_mem_cons.mpr ⟨v4 _ r4, fun z hz => (or z hz).up r2⟩⟩, e3, hun', hca'.up r1 r2, hvn.up r1 r2⟩ Q (fun o ho => (hQ o ho).up r1 r2)
              rw [List.map_cons, v2, r5, x_map_ext r1 or]
              rfl
            unfold y_rF at w2
            split at w2
            · rename_i hz
              obtain ⟨z, z1, z2⟩ := w2
              rw [hz] at fin
              obtain ⟨ρ', r1, r2, r3, r4, r5⟩ := x_nwi hsat z2
              exact fin ρ' r1 r2 r3 r4 (by rw [r5, z1])
            · rename_i hz
              obtain ⟨z, z1, z2⟩ := w2
              rw [hz] at fin
              obtain ⟨ρ', r1, r2, r3, r4, r5⟩ := x_nwl hsat z2
              exact fin ρ' r1 r2 r3 r4 (by rw [r5, z1])
            · rename_i n0 n1
              have hc2 : f.1 = 0 ∨ f.1 = 1 := by omega
              rcases hc2 with z | z
              · exact (n0 z).elim
              · exact (n1 z).elim
end YCA
