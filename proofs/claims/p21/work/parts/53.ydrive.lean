/-! a method by its loops' heads: states wait at them, made one; and its contract -/
def y_P (h0 : yQ × ev_H) (I : ev_I) (Q : Option Value → ev_H → Prop) (o : yo) : Prop := ∀ (ρ : Nat → Int) (Lc : ev_L) (stc : List Value) (hc : ev_H), y_G h0 ρ o.2.2.2.2.1 o.2.1 o.2.2.1 o.2.2.2.1 Lc stc hc → match o.1 with
  | 0 => Q stc.head? hc
  | p + 1 => x_W none I p Lc stc hc o.2.2.2.2.2.1 o.2.2.2.2.2.2 Q
theorem y_P.O {h0 : yQ × ev_H} {I : ev_I} {Q : Option Value → ev_H → Prop} {o : yo} (h : y_P h0 I Q o) (ρ : Nat → Int) (n : Nat) : y_O h0 none I Q ρ n o := fun ρ' Lc stc hc _ _ hG => h ρ' Lc stc hc hG
theorem y_P_jn {h0 : yQ × ev_H} {I : ev_I} {Q : Option Value → ev_H → Prop} {a b c : yo} (h : y_jn a b = some c) (hc : y_P h0 I Q c) (s : Bool) : y_P h0 I Q (y_sl s a b) := fun ρ Lc stc hc9 hG => by
  obtain ⟨⟨e1, e2, e3⟩, ρ', hG'⟩ := y_jn_ok h s hG
  have := hc ρ' Lc stc hc9 hG'
  rw [e1, e2, e3] at this
  exact this
noncomputable def y_tg (part : Option (Nat × Nat)) (o : yo) : Bool := match part with
  | none => false
  | some p => match y_lk p.1 p.2 o.2.2.2.1.2.1 with
    | some v => Nat.beq (x_kv o.2.2.2.2.1 v).2.1 0 && x_eq (x_kv o.2.2.2.2.1 v).2.2 (-9)
    | none => false
def y_bq (a b : Bool) : Bool := match a with
  | true => b
  | false => !b
noncomputable def y_ins (part : Option (Nat × Nat)) (o : yo) (pend : List yo) : Option (List yo) := List.rec (motive := fun _ => Option (List yo)) (some [o]) (fun p r ih => match Nat.beq p.1 o.1 && y_bq (y_tg part p) (y_tg part o) with
  | true => match y_jn p o with
    | some c => some (c :: r)
    | none => none
  | false => match ih with
    | some l => some (p :: l)
    | none => none) pend
theorem y_ins_ok {h0 : yQ × ev_H} {I : ev_I} {Q : Option Value → ev_H → Prop} {part : Option (Nat × Nat)} {o : yo} : ∀ {pend res : List yo}, y_ins part o pend = some res → (∀ x ∈ res, y_P h0 I Q x) → y_P h0 I Q o ∧ ∀ x ∈ pend, y_P h0 I Q x := by
  intro pend
  induction pend with
  | nil =>
    intro res h hr
    cases h
    exact ⟨hr o (by simp), fun x hx => by cases hx⟩
  | cons p r ih =>
    intro res h hr
    have h : (match Nat.beq p.1 o.1 && y_bq (y_tg part p) (y_tg part o) with
      | true => match y_jn p o with
        | some c => some (c :: r)
        | none => none
      | false => match y_ins part o r with
        | some l => some (p :: l)
        | none => none) = some res := h
    cases hb : (Nat.beq p.1 o.1 && y_bq (y_tg part p) (y_tg part o)) with
    | true =>
      rw [hb] at h
      dsimp only at h
      cases hj : y_jn p o with
      | none => rw [hj] at h; cases h
      | some c =>
        rw [hj] at h
        cases h
        have hc := hr c (by simp)
        refine ⟨y_P_jn hj hc false, fun x hx => ?_⟩
        rcases List.mem_cons.mp hx with rfl | hx
        · exact y_P_jn hj hc true
        · exact hr x (by simp [hx])
    | false =>
      rw [hb] at h
      dsimp only at h
      cases hi : y_ins part o r with
      | none => rw [hi] at h; cases h
      | some l =>
        rw [hi] at h
        cases h
        obtain ⟨g1, g2⟩ := ih hi (fun x hx => hr x (by simp [hx]))
        refine ⟨g1, fun x hx => ?_⟩
        rcases List.mem_cons.mp hx with rfl | hx
        · exact hr x (by simp)
        · exact g2 x hx
noncomputable def y_fd (p : Nat) (pend : List yo) : Option (yo × List yo) := List.rec (motive := fun _ => Option (yo × List yo)) none (fun o r ih => match Nat.beq o.1 (p + 1) with
  | true => some (o, r)
  | false => match ih with
    | some q => some (q.1, o :: q.2)
    | none => none) pend
theorem y_fd_ok {p : Nat} : ∀ {pend : List yo} {q : yo × List yo}, y_fd p pend = some q → ∀ x ∈ pend, x = q.1 ∨ x ∈ q.2 := by
  intro pend
  induction pend with
  | nil => intro q h; cases h
  | cons o r ih =>
    intro q h x hx
    have h : (match Nat.beq o.1 (p + 1) with
      | true => some (o, r)
      | false => match y_fd p r with
        | some q => some (q.1, o :: q.2)
        | none => none) = some q := h
    cases hb : Nat.beq o.1 (p + 1) with
    | true =>
      rw [hb] at h
      cases h
      exact List.mem_cons.mp hx
    | false =>
      rw [hb] at h
      dsimp only at h
      cases hr : y_fd p r with
      | none => rw [hr] at h; cases h
      | some q' =>
        rw [hr] at h
        cases h
        rcases List.mem_cons.mp hx with rfl | hx
        · exact Or.inr (by simp)
        · rcases ih hr x hx with h1 | h1
          · exact Or.inl h1
          · exact Or.inr (by simp [h1])
noncomputable def y_sel (pend : List yo) (prio : List Nat) : Option (yo × List yo) := List.rec (motive := fun _ => Option (yo × List yo)) none (fun p _ ih => match y_fd p pend with
  | some q => some q
  | none => ih) prio
theorem y_sel_ok {pend : List yo} : ∀ {prio : List Nat} {q : yo × List yo}, y_sel pend prio = some q → ∀ x ∈ pend, x = q.1 ∨ x ∈ q.2 := by
  intro prio
  induction prio with
  | nil => intro q h; cases h
  | cons p r ih =>
    intro q h
    have h : (match y_fd p pend with
      | some q => some q
      | none => y_sel pend r) = some q := h
    cases hf : y_fd p pend with
    | some q' => rw [hf] at h; cases h; exact y_fd_ok hf
    | none => rw [hf] at h; exact ih h
noncomputable def y_prc (part : Option (Nat × Nat)) (post : yo → Bool) (pend : List yo) (outs : List yo) : Option (List yo) := List.rec (motive := fun _ => Option (List yo)) (some pend) (fun o _ ih => match ih with
  | none => none
  | some pd => match o.1 with
    | 0 => match post o with
      | true => some pd
      | false => none
    | _ + 1 => y_ins part o pd) outs
theorem y_prc_ok {h0 : yQ × ev_H} {I : ev_I} {Q : Option Value → ev_H → Prop} {part : Option (Nat × Nat)} {post : yo → Bool} (hpost : ∀ o : yo, o.1 = 0 → post o = true → y_P h0 I Q o) {pend : List yo} : ∀ {outs res : List yo}, y_prc part post pend outs = some res → (∀ x ∈ res, y_P h0 I Q x) → (∀ o ∈ outs, y_P h0 I Q o) ∧ ∀ x ∈ pend, y_P h0 I Q x := by
  intro outs
  induction outs with
  | nil =>
    intro res h hr
    cases h
    exact ⟨fun o ho => (by cases ho), hr⟩
  | cons o r ih =>
    intro res h hr
    have h : (match y_prc part post pend r with
      | none => none
      | some pd => match o.1 with
        | 0 => match post o with
          | true => some pd
          | false => none
        | _ + 1 => y_ins part o pd) = some res := h
    cases hp : y_prc part post pend r with
    | none => rw [hp] at h; cases h
    | some pd =>
      rw [hp] at h
      dsimp only at h
      split at h
      · rename_i ho
        split at h
        · rename_i hpo
          cases h
          obtain ⟨g1, g2⟩ := ih hp hr
          exact ⟨List.forall_mem_cons.mpr ⟨hpost o ho hpo, g1⟩, g2⟩
        · cases h
      · obtain ⟨g1, g2⟩ := y_ins_ok h hr
        obtain ⟨g3, g4⟩ := ih hp g2
        exact ⟨List.forall_mem_cons.mpr ⟨g1, g3⟩, g4⟩
noncomputable def y_drv (tb : List (Nat × yB)) (stops : Nat → Bool) (part : Option (Nat × Nat)) (post : yo → Bool) (prio : List Nat) (n2 : Nat) (fuel : Nat) : List yo → Bool := Nat.rec (motive := fun _ => List yo → Bool) (fun _ => false) (fun _ ih pend => match pend with
  | [] => true
  | _ :: _ => match y_sel pend prio with
    | none => false
    | some r => match r.1.1 with
      | 0 => false
      | p + 1 => match y_lb tb p (y_run stops tb n2) r.1.2.1 r.1.2.2.1 r.1.2.2.2.1 r.1.2.2.2.2.1 r.1.2.2.2.2.2.1 r.1.2.2.2.2.2.2 with
        | none => false
        | some outs => match y_prc part post r.2 outs with
          | none => false
          | some pd => ih pd) fuel
theorem y_drv_ok {h0 : yQ × ev_H} {inl : Nat → Option (List xv → yH → xE → yR)} {cts : Nat → List yCt} {I : ev_I} {cut : Nat → Option Int} (hinl : ∀ a m, inl a = some m → y_Ma h0 a m) (hcts : ∀ a, ∀ ct ∈ cts a, y_Mca h0.1 a ct) {tb : List (Nat × yB)} (htb : y_T h0.1 none inl cts I cut tb) {Q : Option Value → ev_H → Prop} {part : Option (Nat × Nat)} {post : yo → Bool} (hpost : ∀ o : yo, o.1 = 0 → post o = true → y_P h0 I Q o) {stops : Nat → Bool} {prio : List Nat} {n2 : Nat} : ∀ {fuel : Nat} {pend : List yo}, y_drv tb stops part post prio n2 fuel pend = true → ∀ x ∈ pend, y_P h0 I Q x := by
  intro fuel
  induction fuel with
  | zero => intro pend h; cases h
  | succ n ih =>
    intro pend h
    cases pend with
    | nil => intro x hx; cases hx
    | cons o0 r0 =>
      have h : (match y_sel (o0 :: r0) prio with
        | none => false
        | some r => match r.1.1 with
          | 0 => false
          | p + 1 => match y_lb tb p (y_run stops tb n2) r.1.2.1 r.1.2.2.1 r.1.2.2.2.1 r.1.2.2.2.2.1 r.1.2.2.2.2.2.1 r.1.2.2.2.2.2.2 with
            | none => false
            | some outs => match y_prc part post r.2 outs with
              | none => false
              | some pd => y_drv tb stops part post prio n2 n pd) = true := h
      cases hs : y_sel (o0 :: r0) prio with
      | none => rw [hs] at h; cases h
      | some r =>
        rw [hs] at h
        dsimp only at h
        split at h
        · cases h
        · rename_i p hp
          split at h
          · cases h
          · rename_i outs ho
            split at h
            · cases h
            · rename_i pd hpd
              obtain ⟨g1, g2⟩ := y_prc_ok hpost hpd (ih h)
              intro x hx
              rcases y_sel_ok hs x hx with rfl | hx
              · intro ρ Lc stc hc hG
                rw [hp]
                exact ys_lb hinl hcts (ys_run hinl hcts htb n2) htb p _ _ _ _ _ _ outs ho ρ none Lc stc hc (fun x hx => by cases hx) hG Q (fun o' ho' => (g1 o' ho').O ρ _)
              · exact g2 x hx
/-! the contract -/
noncomputable def y_po (ct : yCt) (o : yo) : Bool := y_mq o.2.2.2.1.1 ct.2.2 && (match ct.2.1 with
  | none => match o.2.2.1 with
    | [] => true
    | _ :: _ => false
  | some f => match o.2.2.1 with
    | v :: r => match r with
      | [] => Nat.ble f.1 1 && y_ck o.2.2.2.2.1 f v
      | _ :: _ => false
    | [] => false)
theorem y_po_ok {g : yQ} {hc0 : ev_H} {I : ev_I} {ct : yCt} {o : yo} (h1 : o.1 = 0) (h : y_po ct o = true) : y_P (g, hc0) I (fun r hc' => y_ret ct.2.1 r ∧ y_in g hc' ∧ y_un ct.2.2 hc0 hc') o := by
  intro ρ Lc stc hc hG
  obtain ⟨hsat, hL, hst, hin, hun, hca, hvn⟩ := hG
  rw [h1]
  unfold y_po at h
  rw [Bool.and_eq_true] at h
  have hm := y_mq_ok h.1
  refine ⟨?_, hin, by rw [← hm]; exact hun⟩
  have h2 := h.2
  unfold y_ret
  cases hr : ct.2.1 with
  | none =>
    rw [hr] at h2
    dsimp only at h2 ⊢
    cases hs : o.2.2.1 with
    | nil => rw [hst.1, hs]; rfl
    | cons v r => rw [hs] at h2; cases h2
  | some f =>
    rw [hr] at h2
    dsimp only at h2 ⊢
    cases hs : o.2.2.1 with
    | nil => rw [hs] at h2; cases h2
    | cons v r =>
      rw [hs] at h2
      dsimp only at h2
      cases r with
      | cons w r => cases h2
      | nil =>
        dsimp only at h2
        rw [Bool.and_eq_true] at h2
        have hf : f.1 ≤ 1 := Nat.le_of_ble_eq_true h2.1
        refine ⟨by omega, x_in ρ v, by rw [hst.1, hs]; rfl, ?_⟩
        have := y_ck_ok hsat h2.2
        unfold y_rA at this
        split at this
        · omega
        · exact this
/-- a start: a symbol for each argument -/
noncomputable def y_ini (fs : List yF) : xE → List xv × xE := List.rec (motive := fun _ => xE → List xv × xE) (fun env => ([], env)) (fun f _ ih env => match Nat.beq f.1 2 && x_eq f.2.1 f.2.2.1 with
  | true => ((2, 0, f.2.1) :: (ih env).1, (ih env).2)
  | false => ((x_nw f.1 (match Nat.beq f.1 2 with
    | true => (f.2.1, f.2.2.1, false)
    | false => f.2) env).1 :: (ih (x_nw f.1 (match Nat.beq f.1 2 with
    | true => (f.2.1, f.2.2.1, false)
    | false => f.2) env).2).1, (ih (x_nw f.1 (match Nat.beq f.1 2 with
    | true => (f.2.1, f.2.2.1, false)
    | false => f.2) env).2).2)) fs
theorem y_ini_ok : ∀ {fs : List yF} {as : List Value} {env : xE} {ρ : Nat → Int}, x_sat ρ env → y_args fs as → (∀ f ∈ fs, f.1 ≤ 2) → ∃ ρ', x_ext env.length ρ ρ' ∧ env.length ≤ (y_ini fs env).2.length ∧ x_sat ρ' (y_ini fs env).2 ∧ (∀ v ∈ (y_ini fs env).1, x_ok (y_ini fs env).2.length v) ∧ as = (y_ini fs env).1.map (x_in ρ') := by
  intro fs
  induction fs with
  | nil =>
    intro as env ρ hsat ha _
    have : as = [] := List.length_eq_zero_iff.mp ha.1.symm
    subst this
    exact ⟨ρ, x_ext.rf, Nat.le_refl _, hsat, fun v hv => (by cases hv), rfl⟩
  | cons f fs ih =>
    intro as env ρ hsat ha hk
    cases as with
    | nil => cases ha.1
    | cons v as =>
      have ha1 : y_rA f v := ha.2 0 f v rfl rfl
      have ha2 : y_args fs as := ⟨Nat.succ.inj ha.1, fun k f' v' h1 h2 => ha.2 (k + 1) f' v' h1 h2⟩
      have hk1 : f.1 ≤ 2 := hk f (by simp)
      have hk2 : ∀ f ∈ fs, f.1 ≤ 2 := fun f' hf' => hk f' (by simp [hf'])
      have e : y_ini (f :: fs) env = (match Nat.beq f.1 2 && x_eq f.2.1 f.2.2.1 with
        | true => ((2, 0, f.2.1) :: (y_ini fs env).1, (y_ini fs env).2)
        | false => ((x_nw f.1 (match Nat.beq f.1 2 with
          | true => (f.2.1, f.2.2.1, false)
          | false => f.2) env).1 :: (y_ini fs (x_nw f.1 (match Nat.beq f.1 2 with
          | true => (f.2.1, f.2.2.1, false)
          | false => f.2) env).2).1, (y_ini fs (x_nw f.1 (match Nat.beq f.1 2 with
          | true => (f.2.1, f.2.2.1, false)
          | false => f.2) env).2).2)) := rfl
      rw [e]
      cases hb : (Nat.beq f.1 2 && x_eq f.2.1 f.2.2.1) with
      | true =>
        rw [Bool.and_eq_true] at hb
        have b1 := Nat.eq_of_beq_eq_true hb.1
        have b2 := x_eq_iff.mp hb.2
        obtain ⟨ρ', g1, g2, g3, g4, g5⟩ := ih hsat ha2 hk2
        unfold y_rA at ha1
        rw [b1] at ha1
        obtain ⟨k, k1, k2, k3⟩ := ha1
        refine ⟨ρ', g1, g2, g3, List.forall_mem_cons.mpr ⟨Nat.zero_le _, g4⟩, ?_⟩
        dsimp only
        rw [List.map_cons, ← g5, k1, x_in2 rfl]
        show (Value.ref k :: as) = (Value.ref f.2.1.toNat :: as)
        rw [show f.2.1.toNat = k by omega]
      | false =>
        dsimp only
        generalize he : (match Nat.beq f.1 2 with
          | true => (f.2.1, f.2.2.1, false)
          | false => f.2) = en
        have hz : ∃ ρ1, x_ext env.length ρ ρ1 ∧ env.length ≤ (x_nw f.1 en env).2.length ∧ x_sat ρ1 (x_nw f.1 en env).2 ∧ x_ok (x_nw f.1 en env).2.length (x_nw f.1 en env).1 ∧ x_in ρ1 (x_nw f.1 en env).1 = v := by
          have hcs : f.1 = 0 ∨ f.1 = 1 ∨ f.1 = 2 := by omega
          rcases hcs with h9 | h9 | h9
          · rw [h9] at he ⊢
            have he : f.2 = en := he
            unfold y_rA y_rF at ha1
            rw [h9] at ha1
            obtain ⟨z, z1, z2⟩ := ha1
            rw [he] at z2
            obtain ⟨ρ1, r1, r2, r3, r4, r5⟩ := x_nwi hsat z2
            exact ⟨ρ1, r1, r2, r3, r4, by rw [r5, z1]⟩
          · rw [h9] at he ⊢
            have he : f.2 = en := he
            unfold y_rA y_rF at ha1
            rw [h9] at ha1
            obtain ⟨z, z1, z2⟩ := ha1
            rw [he] at z2
            obtain ⟨ρ1, r1, r2, r3, r4, r5⟩ := x_nwl hsat z2
            exact ⟨ρ1, r1, r2, r3, r4, by rw [r5, z1]⟩
          · rw [h9] at he ⊢
            have he : (f.2.1, f.2.2.1, false) = en := he
            unfold y_rA at ha1
            rw [h9] at ha1
            obtain ⟨k, k1, k2, k3⟩ := ha1
            obtain ⟨ρ1, r1, r2, r3, r4, r5⟩ := x_nw_ok (k := 2) (e := en) (z := (k : Int)) hsat (by rw [← he]; exact Or.inl ⟨k2, k3⟩)
            exact ⟨ρ1, r1, by rw [r5]; exact Nat.le_succ _, r2, r4, by rw [x_in2 rfl, r3, k1, Int.toNat_natCast]⟩
        obtain ⟨ρ1, r1, r2, r3, r4, r5⟩ := hz
        obtain ⟨ρ', g1, g2, g3, g4, g5⟩ := ih r3 ha2 hk2
        exact ⟨ρ', r1.tr r2 g1, Nat.le_trans r2 g2, g3, List.forall_mem_cons.mpr ⟨r4.up g2, g4⟩, by rw [List.map_cons, ← g5, x_in_ext g1 r4, r5]⟩
noncomputable def y_start (k : Nat) (ct : yCt) : yo := (1, x_la (y_ini ct.1 []).1 (List.replicate k (9, 0, 0)), [], (ct.2.2, [], []), (y_ini ct.1 []).2, 0, 0)
theorem y_con {g : yQ} {I : ev_I} {ct : yCt} {k : Nat} (hk : ∀ f ∈ ct.1, f.1 ≤ 2) (h : ∀ hc0, y_in g hc0 → y_P (g, hc0) I (fun r hc' => y_ret ct.2.1 r ∧ y_in g hc' ∧ y_un ct.2.2 hc0 hc') (y_start k ct)) : y_Mc g I ct := by
  intro hc as hin ha
  have h00 : x_sat (fun _ => 0) ([] : xE) := fun i e hi => by cases hi
  obtain ⟨ρ', g1, g2, g3, g4, g5⟩ := y_ini_ok (fs := ct.1) h00 ha hk
  have := h hc hin ρ' (lv_args 0 as) [] hc ⟨g3, fun j v hj h4 => by
    have := x_la_ok (ρ := ρ') (n := (y_ini ct.1 []).2.length) (tail := List.replicate k (9, 0, 0)) (fun v hv => by rw [List.eq_of_mem_replicate hv]; decide) g4 0 j v hj h4
    rw [Nat.zero_add, ← g5] at this
    exact this, ⟨rfl, fun v hv => by cases hv⟩, hin, fun q i _ => rfl, fun e he => (by cases he), fun e he => by cases he⟩
  exact this
