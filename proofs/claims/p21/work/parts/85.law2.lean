/-! what a call leaves as it was; ranges of numbers; the text's relation, and what write, wipe, fault do to it -/
def g_agree (FP : yMd) (m m' : Nat → Nat → Int) : Prop := ∀ e ∈ FP, ∀ i, e.2.1 ≤ i → i ≤ e.2.2 → m' e.1 i = m e.1 i
def g_dis (md FP : yMd) : Bool := FP.all (fun e => md.all (fun d => !(Nat.beq d.1 e.1) || (Nat.blt d.2.2 e.2.1 || Nat.blt e.2.2 d.2.1)))
theorem g_dis_ok {md FP : yMd} {hc hc' : ev_H} (h : g_dis md FP = true) (hu : y_un md hc hc') : g_agree FP (gi hc) (gi hc') := fun e he i h1 h2 => by
  have h3 := List.all_eq_true.mp h e he
  have hn : ¬ y_cov md e.1 i := fun ⟨d, hd, d1, d2, d3⟩ => by
    have h4 := List.all_eq_true.mp h3 d hd
    rw [d1, Nat.beq_refl, Bool.not_true, Bool.false_or, Bool.or_eq_true] at h4
    rcases h4 with h4 | h4
    · have h5 : d.2.2 + 1 ≤ e.2.1 := Nat.le_of_ble_eq_true h4
      omega
    · have h5 : e.2.2 + 1 ≤ d.2.1 := Nat.le_of_ble_eq_true h4
      omega
  unfold gi
  rw [hu e.1 i hn]
theorem g_agree.tr {FP : yMd} {m m' m'' : Nat → Nat → Int} (h : g_agree FP m m') (h' : g_agree FP m' m'') : g_agree FP m m'' := fun e he i h1 h2 => (h' e he i h1 h2).trans (h e he i h1 h2)
theorem g_agree.at {FP : yMd} {m m' : Nat → Nat → Int} (h : g_agree FP m m') (k : Nat) {e : Nat × Nat × Nat} (hk : FP[k]? = some e) (i : Nat) (h1 : e.2.1 ≤ i) (h2 : i ≤ e.2.2) : m' e.1 i = m e.1 i := h e (List.mem_of_getElem? hk) i h1 h2
theorem g_rf {hc : ev_H} (hin : y_in yG hc) {q i : Nat} {c : yC} {lo hi : Int} (hy : x_g yG q = some c) (h2 : c.1 = 2) (hf : x_g c.2.2.2 i = some (0, lo, hi, false)) : lo ≤ gi hc q i ∧ gi hc q i ≤ hi := by
  obtain ⟨cc, h1, h3⟩ := hin q c hy
  obtain ⟨c1, c2, c3, c4⟩ := c
  have h2 : c1 = 2 := h2
  subst h2
  obtain ⟨fs, rfl, h4⟩ := h3
  obtain ⟨v, v1, z, rfl, v3⟩ := h4 i _ hf
  rw [gi_of (hc := hc) (q := q) (i := i) (z := z) (by rw [f_get_o h1]; exact v1)]
  rcases v3 with v3 | v3
  · exact v3
  · cases v3.1
theorem g_ra {hc : ev_H} (hin : y_in yG hc) {q n : Nat} {c : yC} {lo hi : Int} (hy : x_g yG q = some c) (h2 : c.1 = 0) (hn : c.2.2.1 = n) (hk : ((List.range n).all (fun i => match x_g c.2.2.2 i with
  | some f => x_le lo f.2.1 && (x_le f.2.2.1 hi && !(f.2.2.2))
  | none => false)) = true) : ∀ i : Nat, i < n → lo ≤ gi hc q i ∧ gi hc q i ≤ hi := fun i hi9 => by
  obtain ⟨cc, h1, h3⟩ := hin q c hy
  obtain ⟨c1, c2, c3, c4⟩ := c
  have h2 : c1 = 0 := h2
  have hn : c3 = n := hn
  subst h2
  subst hn
  obtain ⟨xs, rfl, e1, e2⟩ := h3
  have hl : i < xs.length := by rw [e1]; exact hi9
  have hz : xs[i]? = some xs[i] := List.getElem?_eq_getElem hl
  have h9 := List.all_eq_true.mp hk i (List.mem_range.mpr hi9)
  have h9 : (match x_g c4 i with
    | some f => x_le lo f.2.1 && (x_le f.2.2.1 hi && !(f.2.2.2))
    | none => false) = true := h9
  rw [gi_of (m_get_a h1 hz)]
  cases hf : x_g c4 i with
  | none => rw [hf] at h9; cases h9
  | some f =>
    rw [hf] at h9
    simp only [Bool.and_eq_true] at h9
    obtain ⟨a1, a2, a3⟩ := h9
    have a1 := x_le_iff.mp a1
    have a2 := x_le_iff.mp a2
    rcases e2 i f _ hf hz with h | h
    · exact ⟨Int.le_trans a1 h.1, Int.le_trans h.2 a2⟩
    · rw [h.1] at a3; cases a3
theorem g_tw {hc : ev_H} (hin : y_in yG hc) : tw (gi hc) := ⟨g_rf (lo := 0) (hi := 40) hin rfl rfl rfl, g_ra (n := 40) (lo := 0) (hi := 65535) hin rfl rfl rfl (by decide +kernel)⟩
theorem g_i32 {z : Int} : ∃ rr : Int, (-2147483648 ≤ rr ∧ rr ≤ 2147483647) ∧ fi z = fi rr := ⟨(Int32.ofInt z).toInt, f_i32 _, by show Value.int (Int32.ofInt z) = Value.int (Int32.ofInt (Int32.ofInt z).toInt); rw [Int32.ofInt_toInt]⟩
/-- both texts are alike -/
def TR (m : Nat → Nat → Int) : Prop := m 1 1 = m 55 13 ∧ ∀ i : Nat, (i : Int) < m 1 1 → m 2 i = m 64 i
def TR_FP : yMd := [(1, 1, 1), (55, 13, 13), (2, 0, 39), (64, 0, 39)]
theorem TR_keep {m m' : Nat → Nat → Int} (hl : m 1 1 ≤ 40) (h : g_agree TR_FP m m') (hT : TR m) : TR m' := by
  have e1 : m' 1 1 = m 1 1 := h.at 0 rfl 1 (Nat.le_refl _) (Nat.le_refl _)
  have e2 : m' 55 13 = m 55 13 := h.at 1 rfl 13 (Nat.le_refl _) (Nat.le_refl _)
  refine ⟨by rw [e1, e2]; exact hT.1, fun i hi => ?_⟩
  rw [e1] at hi
  have e3 : m' 2 i = m 2 i := h.at 2 rfl i (Nat.zero_le _) (by show i ≤ 39; omega)
  have e4 : m' 64 i = m 64 i := h.at 3 rfl i (Nat.zero_le _) (by show i ≤ 39; omega)
  rw [e3, e4]
  exact hT.2 i hi
theorem g_args2' {x : Int} {q : Nat} : y_args [(2, Int.ofNat q, Int.ofNat q, false), (0, Int.negSucc 2147483647, Int.ofNat 2147483647, false)] [.ref q, fi x] := f_args_c f_rAr (f_args_c f_rAi f_args_n)
theorem g_args1' {q : Nat} : y_args [(2, Int.ofNat q, Int.ofNat q, false)] [.ref q] := f_args_c f_rAr f_args_n
theorem TR_write {hc : ev_H} (hin : y_in yG hc) (hT : TR (gi hc)) {x : Int} (rx : -2147483648 ≤ x ∧ x ≤ 2147483647) : ∃ rr hc1 fs1 hc2, (-2147483648 ≤ rr ∧ rr ≤ 2147483647) ∧ f_M 14 [.ref 0, fi x] hc (some (fi rr)) hc1 ∧ hc1[55]? = some (.inr (.inr (10, fs1))) ∧ f_M 16 [.ref 55, fi x] hc1 (some (fi rr)) hc2 ∧ y_in yG hc2 ∧ TR (gi hc2) ∧ y_un yct14_0.2.2 hc hc1 ∧ y_un yct16_0.2.2 hc1 hc2 := by
  have hw := y_win hin
  have hl := (g_tw hin).1
  obtain ⟨t1, t2⟩ := hT
  have core : ∃ rr hc1 hc2, f_M 14 [.ref 0, fi x] hc (some (fi rr)) hc1 ∧ f_M 16 [.ref 55, fi x] hc1 (some (fi rr)) hc2 ∧ TR (gi hc2) := by
    by_cases hx : 0 ≤ x ∧ x ≤ 255
    · by_cases h40 : gi hc 1 1 < 40
      · obtain ⟨hc1, m1, hw1, e1⟩ := t14_ok (m := gi hc) hl.1 hl.2 rx.1 rx.2 hx h40 hc hw rfl
        have e13 : gi hc1 55 13 = gi hc 55 13 := by rw [e1]; rfl
        obtain ⟨hc2, m2, hw2, e2⟩ := t16_ok (m := gi hc1) (by omega) (by omega) rx.1 rx.2 hx (by omega) hc1 hw1 rfl
        refine ⟨gi hc 1 1 + 1, hc1, hc2, m1, by rw [show gi hc 1 1 + 1 = gi hc1 55 13 + 1 by omega]; exact m2, ?_⟩
        rw [e2]
        have a1 : (up (up (gi hc1) 64 (gi hc1 55 13).toNat x) 55 13 (gi hc1 55 13 + 1)) 1 1 = gi hc 1 1 + 1 := by show gi hc1 1 1 = _; rw [e1]; rfl
        refine ⟨by rw [a1]; show _ = gi hc1 55 13 + 1; omega, fun i hi => ?_⟩
        rw [a1] at hi
        have b1 : (up (up (gi hc1) 64 (gi hc1 55 13).toNat x) 55 13 (gi hc1 55 13 + 1)) 2 i = gi hc1 2 i := rfl
        have b2 : (up (up (gi hc1) 64 (gi hc1 55 13).toNat x) 55 13 (gi hc1 55 13 + 1)) 64 i = if 64 = 64 ∧ i = (gi hc1 55 13).toNat then x else gi hc1 64 i := rfl
        have b3 : gi hc1 2 i = if 2 = 2 ∧ i = (gi hc 1 1).toNat then x else gi hc 2 i := by rw [e1]; rfl
        have b4 : gi hc1 64 i = gi hc 64 i := by rw [e1]; rfl
        rw [b1, b2, b3, b4, e13, ← t1]
        by_cases e : i = (gi hc 1 1).toNat
        · rw [if_pos ⟨rfl, e⟩, if_pos ⟨rfl, e⟩]
        · rw [if_neg (fun z => e z.2), if_neg (fun z => e z.2)]
          exact t2 i (by omega)
      · obtain ⟨hc1, m1, hw1, e1⟩ := t14_full (m := gi hc) hl.1 hl.2 rx.1 rx.2 hx h40 hc hw rfl
        obtain ⟨hc2, m2, hw2, e2⟩ := t16_full (m := gi hc1) (by rw [e1]; omega) (by rw [e1]; omega) rx.1 rx.2 hx (by rw [e1]; omega) hc1 hw1 rfl
        exact ⟨-4, hc1, hc2, m1, m2, by rw [e2, e1]; exact ⟨t1, t2⟩⟩
    · obtain ⟨hc1, m1, hw1, e1⟩ := t14_out (m := gi hc) rx.1 rx.2 hx hc hw rfl
      obtain ⟨hc2, m2, hw2, e2⟩ := t16_out (m := gi hc1) rx.1 rx.2 hx hc1 hw1 rfl
      exact ⟨-2, hc1, hc2, m1, m2, by rw [e2, e1]; exact ⟨t1, t2⟩⟩
  obtain ⟨z, hc1, hc2, m1, m2, tr⟩ := core
  obtain ⟨hin1, hun1⟩ := f_Mu (R := ev_r14) rfl yc14_0 hin g_args2' m1
  obtain ⟨hin2, hun2⟩ := f_Mu (R := ev_r16) rfl yc16_0 hin1 g_args2' m2
  obtain ⟨fs1, q55⟩ := g_55 hin1
  obtain ⟨rr, r0, er⟩ := g_i32 (z := z)
  exact ⟨rr, hc1, fs1, hc2, r0, er ▸ m1, q55, er ▸ m2, hin2, tr, hun1, hun2⟩
theorem TR_wipe {hc : ev_H} (hin : y_in yG hc) (hT : TR (gi hc)) : ∃ rr hc1 fs1 hc2, (-2147483648 ≤ rr ∧ rr ≤ 2147483647) ∧ f_M 18 [.ref 0] hc (some (fi rr)) hc1 ∧ hc1[55]? = some (.inr (.inr (10, fs1))) ∧ f_M 19 [.ref 55] hc1 (some (fi rr)) hc2 ∧ y_in yG hc2 ∧ TR (gi hc2) ∧ y_un yct18_0.2.2 hc hc1 ∧ y_un yct19_0.2.2 hc1 hc2 := by
  have hw := y_win hin
  have hl := (g_tw hin).1
  obtain ⟨t1, t2⟩ := hT
  obtain ⟨hc1, m1, hw1, e1⟩ := t18 (m := gi hc) hl.1 hl.2 hc hw rfl
  have e13 : gi hc1 55 13 = gi hc 55 13 := by rw [e1]; rfl
  obtain ⟨hc2, m2, hw2, e2⟩ := t19 (m := gi hc1) (by omega) (by omega) hc1 hw1 rfl
  obtain ⟨hin1, hun1⟩ := f_Mu (R := ev_r18) rfl yc18_0 hin g_args1' m1
  obtain ⟨hin2, hun2⟩ := f_Mu (R := ev_r19) rfl yc19_0 hin1 g_args1' m2
  obtain ⟨fs1, q55⟩ := g_55 hin1
  refine ⟨gi hc 1 1, hc1, fs1, hc2, by omega, m1, q55, by rw [t1, ← e13]; exact m2, hin2, ?_, hun1, hun2⟩
  rw [e2]
  have a1 : (up (gi hc1) 55 13 0) 1 1 = 0 := by show gi hc1 1 1 = _; rw [e1]; rfl
  exact ⟨by rw [a1]; rfl, fun i hi => by rw [a1] at hi; omega⟩
/-- the text of the class is the reference's -/
theorem TR_M {m m1 : Nat → Nat → Int} (hw : tw m) (hT : TR m) (e13 : m1 55 13 = m 55 13) (e64 : ∀ i, m1 64 i = m 64 i) : tM m1 (m 1 1) (tx m) := ⟨by rw [e13]; exact hT.1.symm, hw.1, fun i h1 h2 => by rw [e64, tx_in ⟨h1, h2⟩]; exact (hT.2 _ (by omega)).symm, tx_r hw, fun h => tx_out (by omega)⟩
theorem TR_fault {hc : ev_H} (hin : y_in yG hc) (hT : TR (gi hc)) : ∃ rr hc1 fs1 hc2, (-2147483648 ≤ rr ∧ rr ≤ 2147483647) ∧ f_M 25 [.ref 0] hc (some (fi rr)) hc1 ∧ hc1[55]? = some (.inr (.inr (10, fs1))) ∧ f_M 28 [.ref 55] hc1 (some (fi rr)) hc2 ∧ y_in yG hc2 ∧ TR (gi hc2) ∧ y_un yct25_0.2.2 hc hc1 ∧ y_un yct28_0.2.2 hc1 hc2 := by
  have hw := y_win hin
  have htw := g_tw hin
  obtain ⟨hc1, m1, hw1, e1⟩ := t25 htw hc hw rfl
  obtain ⟨hc2, m2⟩ := t28 (m := gi hc1) (TR_M htw hT (by rw [e1]) (fun i => by rw [e1])) hc1 hw1 rfl
  obtain ⟨hin1, hun1⟩ := f_Mu (R := ev_r25) rfl yc25_0 hin g_args1' m1
  obtain ⟨hin2, hun2⟩ := f_Mu (R := ev_r28) rfl yc28_0 hin1 g_args1' m2
  obtain ⟨fs1, q55⟩ := g_55 hin1
  rw [tF_G] at m1
  obtain ⟨rr, r0, er⟩ := g_i32 (z := tG (gi hc 1 1) (tx (gi hc)))
  exact ⟨rr, hc1, fs1, hc2, r0, er ▸ m1, q55, er ▸ m2, hin2, TR_keep htw.1.2 ((g_dis_ok (by decide) hun1).tr (g_dis_ok (by decide) hun2)) hT, hun1, hun2⟩
theorem bI_t {C : Prop} [Decidable C] (h : ¬ bI (decide C) = 0) : C := of_decide_eq_true (bI1 h)
theorem bI_f {C : Prop} [Decidable C] (h : bI (decide C) = 0) : ¬ C := of_decide_eq_false (bI0 h)
theorem bI_n {C : Prop} [Decidable C] (h : ¬ ¬ bI (decide C) = 0) : ¬ C := of_decide_eq_false (bI0 (Classical.byContradiction h))
