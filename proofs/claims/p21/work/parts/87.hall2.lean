/-! hall: both answer alike; names and people alike -/
theorem nF_r2 {ln p : Int} {t : Int → Int} (l1 : 0 ≤ ln) (l2 : ln ≤ 40) (h1 : 0 ≤ p) (h2 : p < ln) : -9 ≤ nF ln t p ∧ nF ln t p ≤ 100 := by
  unfold nF
  split
  · omega
  · split
    · omega
    · split <;> omega
theorem pF_r2 {ln p : Int} {t : Int → Int} (l1 : 0 ≤ ln) (l2 : ln ≤ 40) (h1 : 0 ≤ p) (h2 : p < ln) : -9 ≤ pF ln t p ∧ pF ln t p ≤ 100 := by
  unfold pF
  split
  · omega
  · split
    · omega
    · split
      · omega
      · split <;> omega
/-- what one letter after another may be -/
def pV (ns : pNs) (ps : pPs) : Prop := ns.length ≤ 4 ∧ ps.length ≤ 5 ∧ (∀ e ∈ ns, (0 ≤ e.1 ∧ e.1 ≤ 3) ∧ (1 ≤ e.2 ∧ e.2 ≤ 9)) ∧ (∀ e ∈ ps, (0 ≤ e.1 ∧ e.1 ≤ 9) ∧ (0 ≤ e.2.1 ∧ e.2.1 ≤ 9) ∧ (0 ≤ e.2.2 ∧ e.2.2 ≤ 15))
theorem nF_ok {ln p : Int} {t : Int → Int} (l1 : 0 ≤ ln) (h1 : 0 ≤ p) (h : nF ln t p = -9) : (48 ≤ t (p + 1) ∧ t (p + 1) ≤ 51) ∧ (49 ≤ t (p + 2) ∧ t (p + 2) ≤ 57) := by
  unfold nF at h
  split at h
  · omega
  · rename_i i1
    split at h
    · omega
    · rename_i i2
      split at h
      · omega
      · have i1 : ¬ (p + 1 < ln ∧ (t (p + 1) < 48 ∨ 51 < t (p + 1))) := fun z => i1 (decide_eq_true z)
        have i2 : ¬ (p + 2 < ln ∧ (t (p + 2) < 49 ∨ 57 < t (p + 2))) := fun z => i2 (decide_eq_true z)
        omega
theorem pF_ok {ln p : Int} {t : Int → Int} (l1 : 0 ≤ ln) (h1 : 0 ≤ p) (h : pF ln t p = -9) : (48 ≤ t (p + 1) ∧ t (p + 1) ≤ 57) ∧ (48 ≤ t (p + 2) ∧ t (p + 2) ≤ 57) ∧ (97 ≤ t (p + 3) ∧ t (p + 3) ≤ 112) := by
  unfold pF at h
  split at h
  · omega
  · rename_i i1
    split at h
    · omega
    · rename_i i2
      split at h
      · omega
      · rename_i i3
        split at h
        · omega
        · have i1 : ¬ (p + 1 < ln ∧ (t (p + 1) < 48 ∨ 57 < t (p + 1))) := fun z => i1 (decide_eq_true z)
          have i2 : ¬ (p + 2 < ln ∧ (t (p + 2) < t (p + 1) ∨ 57 < t (p + 2))) := fun z => i2 (decide_eq_true z)
          have i3 : ¬ (p + 3 < ln ∧ (t (p + 3) < 97 ∨ 112 < t (p + 3))) := fun z => i3 (decide_eq_true z)
          omega
theorem pr_r {ln : Int} {t : Int → Int} (l1 : 0 ≤ ln) (l2 : ln ≤ 40) : ∀ (n : Nat) (p : Int) (ns : pNs) (ps : pPs), 0 ≤ p → p ≤ 44 → pV ns ps → (-9 ≤ (pr ln t n p ns ps).1 ∧ (pr ln t n p ns ps).1 ≤ 100) ∧ pV (pr ln t n p ns ps).2.1 (pr ln t n p ns ps).2.2 := by
  intro n
  induction n with
  | zero => intro p ns ps _ _ hV; exact ⟨by show (-9 : Int) ≤ -9 ∧ (-9 : Int) ≤ 100; decide, hV⟩
  | succ n ih =>
    intro p ns ps p1 p2 hV
    rw [pr_s]
    by_cases c0 : ln ≤ p
    · rw [if_pos c0]
      exact ⟨by show (-9 : Int) ≤ -9 ∧ (-9 : Int) ≤ 100; decide, hV⟩
    · rw [if_neg c0]
      have stop : ∀ z : Int, -9 ≤ z ∧ z ≤ 100 → (-9 ≤ ((z, ns, ps) : Int × pNs × pPs).1 ∧ ((z, ns, ps) : Int × pNs × pPs).1 ≤ 100) ∧ pV ((z, ns, ps) : Int × pNs × pPs).2.1 ((z, ns, ps) : Int × pNs × pPs).2.2 := fun z hz => ⟨hz, hV⟩
      by_cases hN : t p = 78
      · rw [if_pos hN]
        by_cases h4 : 4 ≤ ns.length
        · rw [if_pos h4]; exact stop p (by omega)
        · rw [if_neg h4]
          by_cases hf : nF ln t p = -9
          · rw [if_pos hf]
            obtain ⟨a1, a2⟩ := nF_ok l1 p1 hf
            refine ih (p + 3) _ ps (by omega) (by omega) ⟨by rw [List.length_append]; show ns.length + 1 ≤ 4; omega, hV.2.1, fun e he => ?_, hV.2.2.2⟩
            rcases List.mem_append.mp he with he | he
            · exact hV.2.2.1 e he
            · have := List.mem_singleton.mp he
              subst this
              exact ⟨⟨by show 0 ≤ t (p + 1) - 48; omega, by show t (p + 1) - 48 ≤ 3; omega⟩, by show 1 ≤ t (p + 2) - 48; omega, by show t (p + 2) - 48 ≤ 9; omega⟩
          · rw [if_neg hf]; exact stop _ (nF_r2 l1 l2 p1 (by omega))
      · rw [if_neg hN]
        by_cases hP : t p = 80
        · rw [if_pos hP]
          by_cases h5 : 5 ≤ ps.length
          · rw [if_pos h5]; exact stop p (by omega)
          · rw [if_neg h5]
            by_cases hf : pF ln t p = -9
            · rw [if_pos hf]
              obtain ⟨a1, a2, a3⟩ := pF_ok l1 p1 hf
              refine ih (p + 4) ns _ (by omega) (by omega) ⟨hV.1, by rw [List.length_append]; show ps.length + 1 ≤ 5; omega, hV.2.2.1, fun e he => ?_⟩
              rcases List.mem_append.mp he with he | he
              · exact hV.2.2.2 e he
              · have := List.mem_singleton.mp he
                subst this
                exact ⟨⟨by show 0 ≤ t (p + 1) - 48; omega, by show t (p + 1) - 48 ≤ 9; omega⟩, ⟨by show 0 ≤ t (p + 2) - 48; omega, by show t (p + 2) - 48 ≤ 9; omega⟩, by show 0 ≤ t (p + 3) - 97; omega, by show t (p + 3) - 97 ≤ 15; omega⟩
            · rw [if_neg hf]; exact stop _ (pF_r2 l1 l2 p1 (by omega))
        · rw [if_neg hP]; exact stop p (by omega)
theorem pV0 : pV [] [] := ⟨by decide, by decide, fun e he => (by cases he), fun e he => by cases he⟩
theorem tG_r {ln : Int} {t : Int → Int} (l1 : 0 ≤ ln) (l2 : ln ≤ 40) : -9 ≤ tG ln t ∧ tG ln t ≤ 100 := by
  unfold tG
  split
  · exact (pr_r l1 l2 40 1 [] [] (by decide) (by decide) pV0).1
  · decide
theorem tG_pr {ln : Int} {t : Int → Int} (h : tG ln t = -9) : (pr ln t 40 1 [] []).1 = -9 := by
  unfold tG at h
  split at h
  · exact h
  · exact absurd h (by decide)
def TR_FPh : yMd := TR_FP
/-- hall: what both do -/
theorem TR_hall {hc : ev_H} (hin : y_in yG hc) (hT : TR (gi hc)) : ∃ rr hc1 fs1 hc2, (-2147483648 ≤ rr ∧ rr ≤ 2147483647) ∧ f_M 38 [.ref 0] hc (some (fi rr)) hc1 ∧ hc1[55]? = some (.inr (.inr (10, fs1))) ∧ f_M 39 [.ref 55] hc1 (some (fi rr)) hc2 ∧ y_in yG hc2 ∧ TR (gi hc2) ∧ y_un yct38_0.2.2 hc hc1 ∧ y_un yct39_0.2.2 hc1 hc2 ∧ y_in yG hc1 ∧
    ((gi hc1 = gi hc ∧ y_un yct27_0.2.2 hc1 hc2) ∨ ∃ ns ps hcC hcM, pV ns ps ∧ cP (gi hcC) ns ps ∧ y_un yct31_0.2.2 hc hcC ∧ gi hc1 = hallC (gi hcC) ∧ pOK (gi hcM) ns ps ∧ y_un yct27_0.2.2 hc1 hcM ∧ gi hc2 = hallM (gi hcM)) := by
  have hw := y_win hin
  have htw := g_tw hin
  have rG := tG_r (t := tx (gi hc)) htw.1.1 htw.1.2
  by_cases hF : tG (gi hc 1 1) (tx (gi hc)) = -9
  · have hP := tG_pr hF
    obtain ⟨hcf, hcC, hc1, f1, f2, f3, f4, f5, f6, f7⟩ := t38_ok htw (by rw [tF_G]; exact hF) hP hc hw rfl
    obtain ⟨inf, unf⟩ := f_Mu (R := ev_r24) rfl yc24_0 hin g_args1' f1
    obtain ⟨inC, unC⟩ := f_Mu (R := ev_r31) rfl yc31_0 inf (f_args_c f_rAr (f_args_c f_rAr f_args_n)) f3
    obtain ⟨in1, un1⟩ := f_Mu (R := ev_r38) rfl yc38_0 hin g_args1' f5
    have keepT : g_agree TR_FP (gi hc) (gi hc1) := g_dis_ok (by decide) un1
    have e13 : gi hc1 55 13 = gi hc 55 13 := keepT.at 1 rfl 13 (Nat.le_refl _) (Nat.le_refl _)
    have hM : tM (gi hc1) (gi hc 1 1) (tx (gi hc)) := ⟨by rw [e13]; exact hT.1.symm, htw.1, fun i h1 h2 => by
      rw [keepT.at 3 rfl i.toNat (Nat.zero_le _) (by show i.toNat ≤ 39; have := htw.1; omega), tx_in ⟨h1, h2⟩]
      exact (hT.2 _ (by omega)).symm, tx_r htw, fun h => tx_out (by omega)⟩
    obtain ⟨hcM, hc2, g1, g2, g3, g4, g5⟩ := t39_ok hM hF hc1 (y_win in1) rfl
    obtain ⟨inM, unM⟩ := f_Mu (R := ev_r27) rfl yc27_0 in1 g_args1' g1
    obtain ⟨in2, un2⟩ := f_Mu (R := ev_r39) rfl yc39_0 in1 g_args1' g3
    obtain ⟨fs1, q55⟩ := g_55 in1
    have hV := (pr_r (t := tx (gi hc)) htw.1.1 htw.1.2 40 1 [] [] (by decide) (by decide) pV0).2
    obtain ⟨rr, r0, er⟩ := g_i32 (z := 10 * gi hcC 3 5 + gi hcC 3 6)
    have eq : (10 * gi hcM 55 10 + gi hcM 55 11) = (10 * gi hcC 3 5 + gi hcC 3 6) := by rw [g2.1, g2.2.1, f4.1, f4.2.1]
    rw [eq] at g3
    exact ⟨rr, hc1, fs1, hc2, r0, er ▸ f5, q55, er ▸ g3, in2, TR_keep htw.1.2 (keepT.tr (g_dis_ok (by decide) un2)) hT, un1, un2, in1, Or.inr ⟨_, _, hcC, hcM, hV, f4, fun q i hn => by rw [unC q i hn, unf q i (fun z => by obtain ⟨e, he, -⟩ := z; cases he)], f7, g2, unM, g5⟩⟩
  · obtain ⟨hc1, f1, f2, f3⟩ := t38_bad htw (by rw [tF_G]; omega) (by rw [tF_G]; exact hF) hc hw rfl
    obtain ⟨in1, un1⟩ := f_Mu (R := ev_r38) rfl yc38_0 hin g_args1' f1
    obtain ⟨hc2, g1, g2⟩ := t39_bad (m := gi hc1) (TR_M htw hT (by rw [f3]) (fun i => by rw [f3])) (by omega) hF hc1 f2 rfl
    obtain ⟨in2, un2⟩ := f_Mu (R := ev_r39) rfl yc39_0 in1 g_args1' g1
    obtain ⟨-, unM⟩ := f_Mu (R := ev_r27) rfl yc27_0 in1 g_args1' g2
    obtain ⟨fs1, q55⟩ := g_55 in1
    exact ⟨-3, hc1, fs1, hc2, by decide, f1, q55, g1, in2, TR_keep htw.1.2 ((g_dis_ok (by decide) un1).tr (g_dis_ok (by decide) un2)) hT, un1, un2, in1, Or.inl ⟨f3, unM⟩⟩
/-- names and people are as many -/
def NR (m : Nat → Nat → Int) : Prop := m 3 5 = m 55 0 ∧ m 3 6 = m 55 1
def NR_FP : yMd := [(3, 5, 6), (55, 0, 1)]
theorem NR_keep {m m' : Nat → Nat → Int} (h : g_agree NR_FP m m') (hN : NR m) : NR m' := by
  have e1 : m' 3 5 = m 3 5 := h.at 0 rfl 5 (by decide) (by decide)
  have e2 : m' 3 6 = m 3 6 := h.at 0 rfl 6 (by decide) (by decide)
  have e3 : m' 55 0 = m 55 0 := h.at 1 rfl 0 (by decide) (by decide)
  have e4 : m' 55 1 = m 55 1 := h.at 1 rfl 1 (by decide) (by decide)
  exact ⟨by rw [e1, e3]; exact hN.1, by rw [e2, e4]; exact hN.2⟩
theorem NR_hall {hc hc1 hc2 : ev_H} (un1 : y_un yct38_0.2.2 hc hc1) (un2 : y_un yct39_0.2.2 hc1 hc2) (hN : NR (gi hc)) (h : (gi hc1 = gi hc ∧ y_un yct27_0.2.2 hc1 hc2) ∨ ∃ ns ps hcC hcM, pV ns ps ∧ cP (gi hcC) ns ps ∧ y_un yct31_0.2.2 hc hcC ∧ gi hc1 = hallC (gi hcC) ∧ pOK (gi hcM) ns ps ∧ y_un yct27_0.2.2 hc1 hcM ∧ gi hc2 = hallM (gi hcM)) : NR (gi hc2) := by
  rcases h with ⟨e1, u⟩ | ⟨ns, ps, hcC, hcM, hV, c1, u1, e1, p1, u2, e2⟩
  · have k := g_dis_ok (FP := NR_FP) (by decide) u
    rw [e1] at k
    exact NR_keep k hN
  · have k := g_dis_ok (FP := [(3, 5, 6)]) (by decide) un2
    have a1 : gi hc2 3 5 = gi hc1 3 5 := k.at 0 rfl 5 (by decide) (by decide)
    have a2 : gi hc2 3 6 = gi hc1 3 6 := k.at 0 rfl 6 (by decide) (by decide)
    have b1 : gi hc1 3 5 = gi hcC 3 5 := by rw [e1]; rfl
    have b2 : gi hc1 3 6 = gi hcC 3 6 := by rw [e1]; rfl
    have d1 : gi hc2 55 0 = gi hcM 55 10 := by rw [e2]; rfl
    have d2 : gi hc2 55 1 = gi hcM 55 11 := by rw [e2]; rfl
    exact ⟨by rw [a1, b1, d1, c1.1, p1.1], by rw [a2, b2, d2, c1.2.1, p1.2.1]⟩
