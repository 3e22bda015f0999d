/-! blocks, runs over the other heap -/
noncomputable def y_lb (tb : List (Nat × yB)) (pc : Nat) : yB := List.rec (motive := fun _ => yB) (fun _ => y_nop) (fun p _ ih => match Nat.beq p.1 pc with
  | true => p.2
  | false => ih) tb
def y_stop (pc : Nat) : yK := fun L st h env kc ks => some [(pc + 1, L, st, h, env, kc, ks)]
theorem ys_stop {h0 : yQ × ev_H} {scx : yX} {I : ev_I} {pc : Nat} : y_S h0 scx I pc (y_stop pc) := by
  intro L st h env kc ks outs hk ρ sc Lc stc hc hX hG Q hQ
  cases hk
  exact hQ _ (List.mem_singleton.mpr rfl) ρ Lc stc hc x_ext.rf (Nat.le_refl _) hG
noncomputable def y_run (stops : Nat → Bool) (tb : List (Nat × yB)) (n : Nat) : Nat → yK := Nat.rec (motive := fun _ => Nat → yK) (fun _ => y_nop) (fun _ ih pc => match stops pc with
  | true => y_stop pc
  | false => y_lb tb pc ih) n
/-- every block is its method's rows -/
def y_T (g : yQ) (scx : yX) (inl : Nat → Option (List xv → yH → xE → yR)) (cts : Nat → List yCt) (I : ev_I) (cut : Nat → Option Int) (tb : List (Nat × yB)) : Prop := ∀ p ∈ tb, ∃ n, p.2 = y_cm g scx inl cts I cut n p.1
theorem ys_lb {h0 : yQ × ev_H} {scx : yX} {inl : Nat → Option (List xv → yH → xE → yR)} {cts : Nat → List yCt} {I : ev_I} {cut : Nat → Option Int} (hinl : ∀ a m, inl a = some m → y_Ma h0 a m) (hcts : ∀ a, ∀ ct ∈ cts a, y_Mca h0.1 a ct) {ih : Nat → yK} (hi : ∀ p, y_S h0 scx I p (ih p)) {tb : List (Nat × yB)} (htb : y_T h0.1 scx inl cts I cut tb) (pc : Nat) : y_S h0 scx I pc (y_lb tb pc ih) := by
  induction tb with
  | nil => exact ys_nop
  | cons p tb rec =>
    show y_S h0 scx I pc ((match Nat.beq p.1 pc with
      | true => p.2
      | false => y_lb tb pc) ih)
    cases hb : Nat.beq p.1 pc with
    | true =>
      obtain ⟨n, hn⟩ := htb p (by simp)
      have := Nat.eq_of_beq_eq_true hb
      subst this
      show y_S h0 scx I p.1 (p.2 ih)
      rw [hn]
      exact ys_cm hinl hcts hi n p.1
    | false => exact rec (fun q hq => htb q (by simp [hq]))
theorem ys_run {h0 : yQ × ev_H} {scx : yX} {inl : Nat → Option (List xv → yH → xE → yR)} {cts : Nat → List yCt} {I : ev_I} {cut : Nat → Option Int} (hinl : ∀ a m, inl a = some m → y_Ma h0 a m) (hcts : ∀ a, ∀ ct ∈ cts a, y_Mca h0.1 a ct) {tb : List (Nat × yB)} (htb : y_T h0.1 scx inl cts I cut tb) {stops : Nat → Bool} : ∀ n pc, y_S h0 scx I pc (y_run stops tb n pc) := by
  intro n
  induction n with
  | zero => exact fun pc => ys_nop
  | succ n rec =>
    intro pc
    show y_S h0 scx I pc (match stops pc with
      | true => y_stop pc
      | false => y_lb tb pc (y_run stops tb n))
    cases stops pc with
    | true => exact ys_stop
    | false => exact ys_lb hinl hcts rec htb pc
/-! methods in line -/
noncomputable def y_al0 (os : List yo) : Bool := List.rec (motive := fun _ => Bool) true (fun o _ ih => match Nat.beq o.1 0 with
  | true => ih
  | false => false) os
theorem y_al0_ok : ∀ {os : List yo}, y_al0 os = true → ∀ o ∈ os, o.1 = 0 := by
  intro os
  induction os with
  | nil => intro _ o ho; cases ho
  | cons o0 os ih =>
    intro h o ho
    have h : (match Nat.beq o0.1 0 with
      | true => y_al0 os
      | false => false) = true := h
    cases hb : Nat.beq o0.1 0 with
    | false => rw [hb] at h; cases h
    | true =>
      rw [hb] at h
      rcases List.mem_cons.mp ho with rfl | ho
      · exact Nat.eq_of_beq_eq_true hb
      · exact ih h o ho
noncomputable def y_mth (k : Nat) (tb : List (Nat × yB)) (n : Nat) : List xv → yH → xE → yR := fun as h env => match y_lb tb 0 (y_run (fun _ => false) tb n) (x_la as (List.replicate k (9, 0, 0))) [] h env 0 0 with
  | none => none
  | some outs => match y_al0 outs with
    | true => some outs
    | false => none
theorem ys_mth {h0 : yQ × ev_H} {inl : Nat → Option (List xv → yH → xE → yR)} {cts : Nat → List yCt} {I : ev_I} {cut : Nat → Option Int} (hinl : ∀ a m, inl a = some m → y_Ma h0 a m) (hcts : ∀ a, ∀ ct ∈ cts a, y_Mca h0.1 a ct) {tb : List (Nat × yB)} (htb : y_T h0.1 none inl cts I cut tb) {k n : Nat} : y_Mt h0 I (y_mth k tb n) := by
  intro as h env outs hm ρ hc hsat oa hh Q hQ
  unfold y_mth at hm
  split at hm
  · cases hm
  · rename_i outs' ho
    split at hm
    · rename_i hz
      cases hm
      refine ys_lb hinl hcts (ys_run hinl hcts htb n) htb 0 _ [] h env 0 0 outs ho ρ none (lv_args 0 (as.map (x_in ρ))) [] hc (fun x hx => by cases hx) ⟨hsat, fun j v hj h4 => ?_, ⟨rfl, fun v hv => by cases hv⟩, hh⟩ Q (fun o hom ρ' Lc stc hc' e1 e2 hG => ?_)
      · have := x_la_ok (ρ := ρ) (n := env.length) (tail := List.replicate k (9, 0, 0)) (fun v hv => by rw [List.eq_of_mem_replicate hv]; decide) oa 0 j v hj h4
        rw [Nat.zero_add] at this
        exact this
      · rw [y_al0_ok hz o hom]
        dsimp only
        have := hQ o hom ρ' hc' e1 e2 hG.1 hG.2.2.1.2 hG.2.2.2
        rw [hG.2.2.1.1]
        exact this
    · cases hm
theorem y_T_nil {g : yQ} {scx : yX} {inl : Nat → Option (List xv → yH → xE → yR)} {cts : Nat → List yCt} {I : ev_I} {cut : Nat → Option Int} : y_T g scx inl cts I cut [] := fun _ h => by cases h
theorem y_T_cons {g : yQ} {scx : yX} {inl : Nat → Option (List xv → yH → xE → yR)} {cts : Nat → List yCt} {I : ev_I} {cut : Nat → Option Int} {pc : Nat} {bl : yB} {tb : List (Nat × yB)} (n : Nat) (h : bl = y_cm g scx inl cts I cut n pc) (hr : y_T g scx inl cts I cut tb) : y_T g scx inl cts I cut ((pc, bl) :: tb) := fun p hp => by
  rcases List.mem_cons.mp hp with rfl | hp
  · exact ⟨n, h⟩
  · exact hr p hp
