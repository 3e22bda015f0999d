/-! the law at scripts of at most five ints: to the switch, then each road -/
noncomputable def xp_scx (n : Nat) : Option (List xv) := some (((List.range 5).take n).map (fun k => ((0, k + 1, 0) : xv)))
def xp_env : xE := [x_fi, x_fi, x_fi, x_fi, x_fi]
noncomputable def xp_A (n : Nat) : xR := x_lb (xt202 (xp_scx n)) 0 (x_run (fun pc => Nat.ble 33 pc) (xt202 (xp_scx n)) 1000) [(3, 0, 0), (9, 0, 0), (9, 0, 0), (9, 0, 0)] [] (0, []) xp_env 0 0
noncomputable def x_g1s (os : List xo) : Bool := List.rec (motive := fun _ => Bool) true (fun o _ ih => match Nat.beq o.1 0 with
  | true => match o.2.2.1 with
    | v :: _ => match Nat.beq (v.1 + v.2.1) 0 && x_eq v.2.2 1 with
      | true => ih
      | false => false
    | [] => false
  | false => false) os
theorem x_g1s_ok : ∀ {os : List xo}, x_g1s os = true → ∀ o ∈ os, o.1 = 0 ∧ ∃ r, o.2.2.1 = (0, 0, 1) :: r := by
  intro os
  induction os with
  | nil => intro _ o ho; cases ho
  | cons o0 os ih =>
    intro h o ho
    have h : (match Nat.beq o0.1 0 with
      | true => match o0.2.2.1 with
        | v :: _ => match Nat.beq (v.1 + v.2.1) 0 && x_eq v.2.2 1 with
          | true => x_g1s os
          | false => false
        | [] => false
      | false => false) = true := h
    cases hb : Nat.beq o0.1 0 with
    | false => rw [hb] at h; cases h
    | true =>
      rw [hb] at h
      dsimp only at h
      cases hv : o0.2.2.1 with
      | nil => rw [hv] at h; cases h
      | cons v r =>
        rw [hv] at h
        dsimp only at h
        cases hq : (Nat.beq (v.1 + v.2.1) 0 && x_eq v.2.2 1) with
        | false => rw [hq] at h; cases h
        | true =>
          rw [hq] at h
          rcases List.mem_cons.mp ho with rfl | ho
          · rw [Bool.and_eq_true] at hq
            have q1 := Nat.eq_of_beq_eq_true hq.1
            have q2 := x_eq_iff.mp hq.2
            refine ⟨Nat.eq_of_beq_eq_true hb, r, ?_⟩
            rw [hv]
            obtain ⟨k, s, z⟩ := v
            have q1 : k + s = 0 := q1
            have q2 : z = 1 := q2
            rw [show k = 0 by omega, show s = 0 by omega, q2]
          · exact ih h o ho
/-- from a halt on, with these ranges -/
noncomputable def xp_R (n : Nat) (o : xo) (env : xE) : Bool := match o.1 with
  | 0 => false
  | p + 1 => match x_lb (xt202 (xp_scx n)) p (x_run (fun _ => false) (xt202 (xp_scx n)) 100000) o.2.1 o.2.2.1 o.2.2.2.1 env o.2.2.2.2.2.1 o.2.2.2.2.2.2 with
    | some os => x_g1s os
    | none => false
noncomputable def xp_C (n : Nat) (o : xo) : Bool := xp_R n o o.2.2.2.2.1
/-- the same, with the second int from z1 to z2 -/
noncomputable def xp_Z (n : Nat) (z1 z2 : Int) (o : xo) : Bool := match x_rl 0 o.2.2.2.2.1 (0, 0, z1) (0, 2, 0) with
  | none => true
  | some e => match x_rl 0 e (0, 2, 0) (0, 0, z2) with
    | none => true
    | some e => xp_R n o e
noncomputable def xp_at (n j : Nat) (f : xo → Bool) : Bool := match xp_A n with
  | some outs => match x_n outs j with
    | some o => f o
    | none => true
  | none => false
noncomputable def xp_B (n j : Nat) : Bool := xp_at n j (xp_C n)
noncomputable def xp_L (n : Nat) : Bool := match xp_A n with
  | some outs => Nat.ble outs.length 29
  | none => false
def xp_Q : Option Value → ev_H → Prop := fun r _ => r = some (.int 1)
/-- a halt from which the law comes to its end with true -/
def xp_ok (n : Nat) (o : xo) : Prop := ∀ (ρ : Nat → Int) sc Lc stc hc, (∀ i, i < 5 → -2147483648 ≤ ρ i ∧ ρ i ≤ 2147483647) → x_rX o.2.2.2.2.1.length ρ (xp_scx n) sc → x_G ρ o.2.2.2.2.1 o.2.1 o.2.2.1 o.2.2.2.1 Lc stc hc → o.1 ≠ 0 ∧ x_W sc (ev_law 600000 7302250) (o.1 - 1) Lc stc hc o.2.2.2.2.2.1 o.2.2.2.2.2.2 xp_Q
theorem xp_R_ok {n : Nat} {o : xo} {env : xE} (h : xp_R n o env = true) : o.1 ≠ 0 ∧ ∀ ρ sc Lc stc hc, x_rX env.length ρ (xp_scx n) sc → x_G ρ env o.2.1 o.2.2.1 o.2.2.2.1 Lc stc hc → x_W sc (ev_law 600000 7302250) (o.1 - 1) Lc stc hc o.2.2.2.2.2.1 o.2.2.2.2.2.2 xp_Q := by
  unfold xp_R at h
  split at h
  · cases h
  · rename_i p hp
    split at h
    · rename_i os hos
      refine ⟨by rw [hp]; exact Nat.succ_ne_zero p, fun ρ sc Lc stc hc hX hG => ?_⟩
      rw [hp, Nat.succ_sub_one]
      refine xs_lb xcalL_ok (xs_run xcalL_ok (xTL (xp_scx n)) 100000) (xTL (xp_scx n)) p _ _ _ _ _ _ os hos ρ sc Lc stc hc hX hG xp_Q (fun o' ho' ρ' Lc' stc' hc' e1 e2 hG' => ?_)
      obtain ⟨g1, r, g2⟩ := x_g1s_ok h o' ho'
      rw [g1]
      show stc'.head? = some (.int 1)
      rw [hG'.2.2.1.1, g2]
      rfl
    · cases h
theorem xp_C_ok {n : Nat} {o : xo} (h : xp_C n o = true) : xp_ok n o := fun ρ sc Lc stc hc _ hX hG => ⟨(xp_R_ok h).1, (xp_R_ok h).2 ρ sc Lc stc hc hX hG⟩
theorem xp_Z_ok {n : Nat} {z1 z2 : Int} {o : xo} (h : xp_Z n z1 z2 o = true) (ρ : Nat → Int) (hz1 : z1 ≤ ρ 1) (hz2 : ρ 1 ≤ z2) {sc : Option (List Int32)} {Lc : ev_L} {stc : List Value} {hc : ev_H} (hX : x_rX o.2.2.2.2.1.length ρ (xp_scx n) sc) (hG : x_G ρ o.2.2.2.2.1 o.2.1 o.2.2.1 o.2.2.2.1 Lc stc hc) : o.1 ≠ 0 ∧ x_W sc (ev_law 600000 7302250) (o.1 - 1) Lc stc hc o.2.2.2.2.2.1 o.2.2.2.2.2.2 xp_Q := by
  unfold xp_Z at h
  obtain ⟨e1, g1, g2, g3⟩ := x_rl_ok (k := 0) (a := (0, 0, z1)) (b := (0, 2, 0)) hG.1 (by show z1 + 0 ≤ ρ 1 + 0; omega)
  obtain ⟨e2, i1, i2, i3⟩ := x_rl_ok (k := 0) (a := (0, 2, 0)) (b := (0, 0, z2)) g2 (by show ρ 1 + 0 + 0 ≤ z2; omega)
  rw [g1] at h
  dsimp only at h
  rw [i1] at h
  dsimp only at h
  have hl : e2.length = o.2.2.2.2.1.length := i3.trans g3
  obtain ⟨j1, j2⟩ := xp_R_ok h
  exact ⟨j1, j2 ρ sc Lc stc hc (by rw [hl]; exact hX) ⟨i2, by rw [hl]; exact hG.2.1, by rw [hl]; exact hG.2.2.1, by rw [hl]; exact hG.2.2.2⟩⟩
theorem xp_at_ok {n j : Nat} {f : xo → Bool} (h : xp_at n j f = true) {outs : List xo} (ho : xp_A n = some outs) {o : xo} (hj : outs[j]? = some o) : f o = true := by
  unfold xp_at at h
  rw [ho] at h
  dsimp only at h
  rw [x_n_eq, hj] at h
  exact h
/-- to the switch, and then each halt -/
theorem xp_fin {n : Nat} (hn : n ≤ 5) (hL : xp_L n = true) (hall : ∀ outs, xp_A n = some outs → ∀ j o, j < 29 → outs[j]? = some o → xp_ok n o) (xs : Nat → Int32) :
    ∃ m hp', ev m (some ((List.range n).map xs)) (ev_law 600000 7302250) 0 [(0, .retAddr 0)] [] [] 0 0 = some (some (.int 1), hp') := by
  unfold xp_L at hL
  cases hA : xp_A n with
  | none => rw [hA] at hL; cases hL
  | some outs =>
    rw [hA] at hL
    have hL := Nat.le_of_ble_eq_true hL
    have hA' := hA
    unfold xp_A at hA'
    have hsat : x_sat (fun i => (xs i).toInt) xp_env := by
      intro i e hi
      have he : e = x_fi := by
        have := List.mem_of_getElem? hi
        simp only [xp_env, List.mem_cons, List.not_mem_nil, or_false] at this
        rcases this with h | h | h | h | h <;> exact h
      rw [he]
      exact x_fi_ok (xs i)
    have hX : x_rX xp_env.length (fun i => (xs i).toInt) (xp_scx n) (some ((List.range n).map xs)) := by
      refine ⟨?_, fun x hx v hv => ?_⟩
      · unfold xp_scx
        show some ((List.range n).map xs) = some ((((List.range 5).take n).map (fun k => ((0, k + 1, 0) : xv))).map (fun v => Int32.ofInt (x_vl (fun i => (xs i).toInt) v)))
        rw [List.map_map]
        congr 1
        have ht : (List.range 5).take n = List.range n := by
          rw [List.take_range]
          congr 1
          omega
        rw [ht]
        apply List.map_congr_left
        intro k hk
        show xs k = Int32.ofInt ((xs k).toInt + 0)
        rw [Int.add_zero, Int32.ofInt_toInt]
      · unfold xp_scx at hx
        cases hx
        obtain ⟨k, hk, rfl⟩ := List.mem_map.mp hv
        have hk := List.mem_range.mp (List.mem_of_mem_take hk)
        exact ⟨rfl, hk⟩
    have hW := xs_lb xcalL_ok (xs_run xcalL_ok (xTL (xp_scx n)) 1000) (xTL (xp_scx n)) 0 _ _ _ _ _ _ outs hA' (fun i => (xs i).toInt) _ [(0, .retAddr 0)] [] [] hX ⟨hsat, ?_, ⟨rfl, fun v hv => by cases hv⟩, ⟨rfl, fun q c hq => by
        have : x_g ([] : List (List xC)) q = none := rfl
        rw [this] at hq
        cases hq⟩⟩ xp_Q (fun o ho => ?_)
    · obtain ⟨m, r, h, e1, e2⟩ := hW
      have e2 : r = some (.int 1) := e2
      subst e2
      exact ⟨m, h, e1⟩
    · intro k v hk h4
      match k, hk with
      | 0, hk => cases hk; exact ⟨Nat.zero_le _, rfl⟩
      | 1, hk => cases hk; exact absurd h4 (by decide)
      | 2, hk => cases hk; exact absurd h4 (by decide)
      | 3, hk => cases hk; exact absurd h4 (by decide)
      | k + 4, hk => cases hk
    · obtain ⟨j, hj⟩ := List.getElem?_of_mem ho
      have hlt := (List.getElem?_eq_some_iff.mp hj).1
      intro ρ' Lc stc hc e1 e2 hG
      obtain ⟨h0, hok⟩ := hall outs hA j o (by omega) hj ρ' _ Lc stc hc (fun i hi => by
        rw [e1 i hi]
        have h1 := Int32.le_toInt (xs i)
        have h2 := Int32.toInt_lt (xs i)
        show -2147483648 ≤ (xs i).toInt ∧ (xs i).toInt ≤ 2147483647
        omega) (hX.up e1 e2) hG
      cases ho1 : o.1 with
      | zero => exact absurd ho1 h0
      | succ p =>
        show x_W _ _ p Lc stc hc _ _ xp_Q
        have := hok
        rw [ho1, Nat.succ_sub_one] at this
        exact this
set_option maxRecDepth 100000 in
theorem xp_L5 : xp_L 5 = true := by decide +kernel
