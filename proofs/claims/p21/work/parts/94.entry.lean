/-! the entry: both objects are made -/
def g_cell (a : Nat) : ev_C := match vwCl[a]?, ev_tys[a]? with
  | some c, some ty => .inr (.inr (a, (List.range c.2.2).map (fun k => defaultValue (ty k))))
  | _, _ => .inl (0, [])
def g_s1b (e : Int × Int × Bool) (z : Int) : Bool := (decide (e.1 ≤ z) && decide (z ≤ e.2.1)) || (e.2.2 && decide (z = -9))
theorem g_s1b_ok {e : Int × Int × Bool} {z : Int} (h : g_s1b e z = true) : x_s1 e z := by
  unfold g_s1b at h
  rw [Bool.or_eq_true, Bool.and_eq_true, Bool.and_eq_true] at h
  rcases h with h | h
  · exact Or.inl ⟨of_decide_eq_true h.1, of_decide_eq_true h.2⟩
  · exact Or.inr ⟨h.1, of_decide_eq_true h.2⟩
def g_rFb (f : yF) (v : Value) : Bool := match v with
  | .int z => Nat.beq f.1 0 && g_s1b f.2 z.toInt
  | .long z => Nat.beq f.1 1 && g_s1b f.2 z.toInt
  | .ref q => Nat.ble 2 f.1 && Nat.beq q f.2.1.toNat
  | _ => false
theorem g_rFb_ok {f : yF} {v : Value} (h : g_rFb f v = true) : y_rF f v := by
  obtain ⟨k, e⟩ := f
  cases v with
  | int z =>
    have h : (Nat.beq k 0 && g_s1b e z.toInt) = true := h
    rw [Bool.and_eq_true] at h
    have h1 := Nat.eq_of_beq_eq_true h.1
    subst h1
    exact ⟨_, rfl, g_s1b_ok h.2⟩
  | long z =>
    have h : (Nat.beq k 1 && g_s1b e z.toInt) = true := h
    rw [Bool.and_eq_true] at h
    have h1 := Nat.eq_of_beq_eq_true h.1
    subst h1
    exact ⟨_, rfl, g_s1b_ok h.2⟩
  | ref q =>
    have h : (Nat.ble 2 k && Nat.beq q e.1.toNat) = true := h
    rw [Bool.and_eq_true] at h
    have h1 := Nat.le_of_ble_eq_true h.1
    have h2 := Nat.eq_of_beq_eq_true h.2
    match k, h1 with
    | k + 2, _ => show Value.ref q = Value.ref _; rw [h2]
  | _ => cases h
noncomputable def g_rCb (c : yC) (cc : ev_C) : Bool := match c.1, cc with
  | 0, .inl (t, xs) => Nat.beq t c.2.1 && (Nat.beq xs.length c.2.2.1 && (List.range xs.length).all (fun i => match x_g c.2.2.2 i with
    | some f => g_s1b f.2 (xs.getD i 0).toInt
    | none => true))
  | 1, .inr (.inl l) => decide (l = (List.range c.2.2.1).map (fun i => c.2.1 + i))
  | 2, .inr (.inr (a, fs)) => Nat.beq a c.2.1 && (List.range (8 * c.2.2.2.length)).all (fun i => match x_g c.2.2.2 i with
    | some f => match fs[i]? with
      | some v => g_rFb f v
      | none => false
    | none => true)
  | _, _ => false
theorem g_xg {α : Type} {d : List (List α)} {i : Nat} {v : α} (h : x_g d i = some v) : i < 8 * d.length := by
  unfold x_g at h
  rw [x_n_eq] at h
  cases hr : d[i / 8]? with
  | none => rw [hr] at h; cases h
  | some r =>
    have := (List.getElem?_eq_some_iff.mp hr).1
    omega
theorem g_rCb_ok {c : yC} {cc : ev_C} (h : g_rCb c cc = true) : y_rC c cc := by
  obtain ⟨k, c1, c2, c3⟩ := c
  unfold g_rCb at h
  split at h
  · rename_i t xs h1
    have h1 : k = 0 := h1
    subst h1
    rw [Bool.and_eq_true, Bool.and_eq_true] at h
    obtain ⟨h2, h3, h4⟩ := h
    have h2 : t = c1 := Nat.eq_of_beq_eq_true h2
    have h3 : xs.length = c2 := Nat.eq_of_beq_eq_true h3
    refine ⟨xs, by rw [h2], h3, fun i f z hf hz => ?_⟩
    have hl := (List.getElem?_eq_some_iff.mp hz).1
    have := List.all_eq_true.mp h4 i (List.mem_range.mpr hl)
    have hf : x_g c3 i = some f := hf
    rw [show x_g (0, c1, c2, c3).2.2.2 i = some f from hf, List.getD_eq_getElem?_getD, hz] at this
    exact g_s1b_ok this
  · rename_i l h1
    have h1 : k = 1 := h1
    subst h1
    exact congrArg (fun z => Sum.inr (Sum.inl z)) (of_decide_eq_true h)
  · rename_i a fs h1
    have h1 : k = 2 := h1
    subst h1
    rw [Bool.and_eq_true] at h
    have h2 : a = c1 := Nat.eq_of_beq_eq_true h.1
    refine ⟨fs, by rw [h2], fun i f hf => ?_⟩
    have hf : x_g c3 i = some f := hf
    have := List.all_eq_true.mp h.2 i (List.mem_range.mpr (g_xg hf))
    rw [show x_g (2, c1, c2, c3).2.2.2 i = some f from hf] at this
    dsimp only at this
    cases hv : fs[i]? with
    | none => rw [hv] at this; cases this
    | some v => rw [hv] at this; exact ⟨v, rfl, g_rFb_ok this⟩
  · cases h
noncomputable def g_inb (g : yQ) (hc : ev_H) : Bool := (List.range (8 * g.length)).all (fun q => match x_g g q with
  | some c => match hc[q]? with
    | some cc => g_rCb c cc
    | none => false
  | none => true)
theorem g_inb_ok {g : yQ} {hc : ev_H} (h : g_inb g hc = true) : y_in g hc := fun q c hq => by
  have := List.all_eq_true.mp h q (List.mem_range.mpr (g_xg hq))
  rw [hq] at this
  dsimp only at this
  cases hv : hc[q]? with
  | none => rw [hv] at this; cases this
  | some cc => rw [hv] at this; exact ⟨cc, rfl, g_rCb_ok this⟩
def g_run1 : Option (Option Value × ev_H) := ev 4000 none ev_r10.1 0 (lv_args 0 [.ref 0]) [] [g_cell 9] 0 0
def g_run2 (h : ev_H) : Option (Option Value × ev_H) := ev 4000 none ev_r11.1 0 (lv_args 0 [.ref 55]) [] (h ++ [g_cell 10]) 0 0
noncomputable def g_chk (inv : ev_H → Bool) : Bool := match g_run1 with
  | some (none, h1) => Nat.beq h1.length 55 && (match g_run2 h1 with
    | some (none, h2) => g_inb yG h2 && inv h2
    | _ => false)
  | _ => false
theorem g_chk_ok {inv : ev_H → Bool} (h : g_chk inv = true) : ∃ h1 h2, f_M 10 [.ref 0] [g_cell 9] none h1 ∧ h1.length = 55 ∧ f_M 11 [.ref 55] (h1 ++ [g_cell 10]) none h2 ∧ y_in yG h2 ∧ inv h2 = true := by
  unfold g_chk at h
  split at h
  · rename_i h1 e1
    rw [Bool.and_eq_true] at h
    obtain ⟨a1, a2⟩ := h
    split at a2
    · rename_i h2 e2
      rw [Bool.and_eq_true] at a2
      refine ⟨h1, h2, fun R hR => ?_, Nat.eq_of_beq_eq_true a1, fun R hR => ?_, g_inb_ok a2.1, a2.2⟩
      · cases hR
        exact ⟨4000, e1⟩
      · cases hR
        exact ⟨4000, e2⟩
    · cases a2
  · cases h
def g_z : List (Nat × Nat × Int) := [(1, 1, 0), (55, 13, 0), (3, 5, 0), (3, 6, 0), (55, 0, 0), (55, 1, 0), (38, 2, 0), (55, 21, 0), (9, 4, 0), (9, 5, 0), (9, 6, 0), (61, 15, 0), (61, 16, 0), (61, 17, 0), (17, 1, 0), (17, 2, 0), (55, 16, 0), (55, 17, 0), (37, 0, 0), (37, 1, 0), (70, 0, 0), (70, 1, 0), (10, 0, -9), (10, 1, -9), (10, 2, -9), (10, 3, -9), (10, 4, -9), (12, 0, 0), (12, 1, 0), (12, 2, 0), (12, 3, 0), (12, 4, 0), (39, 0, 0), (39, 1, 0), (39, 2, 0), (39, 3, 0), (39, 4, 0), (40, 0, 0), (40, 1, 0), (40, 2, 0), (40, 3, 0)]
def g_invb (h : ev_H) : Bool := g_z.all (fun e => decide (gi h e.1 e.2.1 = e.2.2))
theorem g_invb_ok (h : ev_H) (hin : y_in yG h) (hb : g_invb h = true) : LInv h := by
  have z : ∀ (k : Nat) {e : Nat × Nat × Int}, g_z[k]? = some e → gi h e.1 e.2.1 = e.2.2 := fun k e hk => of_decide_eq_true (List.all_eq_true.mp hb e (List.mem_of_getElem? hk))
  have z10 : ∀ i : Nat, i < 5 → gi h 10 i = -9 := fun i hi => by
    have : i = 0 ∨ i = 1 ∨ i = 2 ∨ i = 3 ∨ i = 4 := by omega
    rcases this with rfl | rfl | rfl | rfl | rfl
    · exact (z 22 rfl)
    · exact (z 23 rfl)
    · exact (z 24 rfl)
    · exact (z 25 rfl)
    · exact (z 26 rfl)
  have z12 : ∀ i : Nat, i < 5 → gi h 12 i = 0 := fun i hi => by
    have : i = 0 ∨ i = 1 ∨ i = 2 ∨ i = 3 ∨ i = 4 := by omega
    rcases this with rfl | rfl | rfl | rfl | rfl
    · exact (z 27 rfl)
    · exact (z 28 rfl)
    · exact (z 29 rfl)
    · exact (z 30 rfl)
    · exact (z 31 rfl)
  have z39 : ∀ i : Nat, i < 5 → gi h 39 i = 0 := fun i hi => by
    have : i = 0 ∨ i = 1 ∨ i = 2 ∨ i = 3 ∨ i = 4 := by omega
    rcases this with rfl | rfl | rfl | rfl | rfl
    · exact (z 32 rfl)
    · exact (z 33 rfl)
    · exact (z 34 rfl)
    · exact (z 35 rfl)
    · exact (z 36 rfl)
  have z40 : ∀ i : Nat, i < 4 → gi h 40 i = 0 := fun i hi => by
    have : i = 0 ∨ i = 1 ∨ i = 2 ∨ i = 3 := by omega
    rcases this with rfl | rfl | rfl | rfl
    · exact (z 37 rfl)
    · exact (z 38 rfl)
    · exact (z 39 rfl)
    · exact (z 40 rfl)
  have n5 : gi h 3 5 = 0 := (z 2 rfl)
  have n6 : gi h 3 6 = 0 := (z 3 rfl)
  have k2 : gi h 17 2 = 0 := (z 15 rfl)
  have hSI : SI (gi h) := by
    refine ⟨⟨⟨n5.trans (z 4 rfl).symm, n6.trans (z 5 rfl).symm⟩, by rw [n5, n6]; decide, fun k hk hk2 => ?_, fun p hp hp2 => ?_⟩, SR0_of (fun i hi hp => ?_) ⟨(z 8 rfl).trans (z 11 rfl).symm, (z 9 rfl).trans (z 12 rfl).symm, (z 10 rfl).trans (z 13 rfl).symm⟩ (fun i hi => Or.inl (z10 i hi)) (fun i hi hp => ⟨z10 i hi, z12 i hi⟩), ⟨k2.trans (z 16 rfl).symm, ⟨?_, ?_, ?_⟩, fun i hi => ?_⟩, fun s hs => ?_⟩
    · rw [n5] at hk2; omega
    · rw [n6] at hp2; omega
    · rw [n6] at hp; omega
    · rw [show gi h 17 1 = 0 from (z 14 rfl)]; decide
    · rw [k2]; decide
    · rw [show gi h 55 17 = 0 from (z 17 rfl)]; decide
    · rw [k2] at hi; omega
    · have : s = 0 ∨ s = 1 := by omega
      rcases this with rfl | rfl
      · exact ⟨(z 18 rfl).trans (z 20 rfl).symm, fun y => absurd (z 18 rfl) y⟩
      · exact ⟨(z 19 rfl).trans (z 21 rfl).symm, fun y => absurd (z 19 rfl) y⟩
  refine ⟨hin, ⟨(z 0 rfl).trans (z 1 rfl).symm, fun i hi => ?_⟩, ⟨n5.trans (z 4 rfl).symm, n6.trans (z 5 rfl).symm⟩, (z 6 rfl).trans (z 7 rfl).symm, hSI, CLR_0 (z 7 rfl) z39 z40⟩
  · rw [show gi h 1 1 = 0 from (z 0 rfl)] at hi; omega
set_option maxRecDepth 100000 in
theorem g_chk0 : g_chk g_invb = true := by decide +kernel
theorem g_start {xs : List Int32} (hlen : xs.length ≤ 320) {inv : ev_H → Bool} (hchk : g_chk inv = true) (hinv : ∀ h, y_in yG h → inv h = true → LInv h) : x_W (some xs) (2, 0, 4, 1, 0, 9, 330, 600000, 7302250, ev_t202) 0 [(0, .retAddr 0)] [] [] 0 0 (fun r _ => r = some (.int 1)) := by
  obtain ⟨h1, h2, m1, len1, m2, hin, hi⟩ := g_chk_ok hchk
  obtain ⟨L, hL0, hL⟩ : ∃ L : ev_L, L = [(0, .retAddr 0)] ∧ f_L L [(0, .retAddr 0)] := ⟨_, rfl, f_L_of rfl⟩
  rw [← hL0]
  refine x_W_n (st' := [.ref 0]) (hc' := [g_cell 9]) (dc := 1) (ds := 12) rfl rfl (by decide) (by decide) ?_
  refine f_s [.ref 0, .ref 0] rfl rfl ?_
  refine f_k0 m1 rfl rfl rfl (f_ar_v (c := 9) rfl rfl) rfl ?_
  refine g_astn [(1, .ref 0), (0, .retAddr 0)] rfl (by decide) hL rfl (fun L1 hL1 => ?_)
  refine x_W_n (st' := [.ref 55]) (hc' := h1 ++ [g_cell 10]) (dc := 1) (ds := 28) rfl (by rw [← len1]; rfl) (by decide) (by decide) ?_
  refine f_s [.ref 55, .ref 55] rfl rfl ?_
  have q55 : (h1 ++ [g_cell 10])[55]? = some (g_cell 10) := by rw [← len1]; simp
  refine f_k0 m2 rfl rfl rfl (f_ar_v (c := 10) q55 rfl) rfl ?_
  refine g_astn [(2, .ref 55), (1, .ref 0), (0, .retAddr 0)] rfl (by decide) hL1 rfl (fun L2 hL2 => ?_)
  refine f_s [fi 0] rfl rfl ?_
  refine f_istn [(3, fi 0), (2, .ref 55), (1, .ref 0), (0, .retAddr 0)] rfl (by decide) hL2 rfl (fun L3 hL3 => ?_)
  exact g_loop hlen xs.length 0 h2 L3 (by decide) (by omega) (by omega) (hinv h2 hin hi) (hL3.sel [3, 2, 1, 0] rfl)
