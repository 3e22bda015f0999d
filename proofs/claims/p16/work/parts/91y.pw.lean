/-! what a hall may tell -/
def PW (m : Nat → Nat → Int) : Prop := (∀ k : Nat, k < 4 → (k : Int) < m 3 5 → (0 ≤ m 4 k ∧ m 4 k ≤ 3) ∧ (1 ≤ m 5 k ∧ m 5 k ≤ 9)) ∧ (∀ p : Nat, p < 5 → (p : Int) < m 3 6 → (0 ≤ m 6 p ∧ m 6 p ≤ 9) ∧ (0 ≤ m 7 p ∧ m 7 p ≤ 9) ∧ (0 ≤ m 8 p ∧ m 8 p ≤ 15))
def PW_FP : yMd := [(3, 5, 6), (4, 0, 3), (5, 0, 3), (6, 0, 4), (7, 0, 4), (8, 0, 4)]
theorem PW_keep {m m' : Nat → Nat → Int} (h : g_agree PW_FP m m') (hW : PW m) : PW m' := by
  have e35 : m' 3 5 = m 3 5 := h.at 0 rfl 5 (by decide) (by decide)
  have e36 : m' 3 6 = m 3 6 := h.at 0 rfl 6 (by decide) (by decide)
  refine ⟨fun k hk hk2 => ?_, fun p hp hp2 => ?_⟩
  · rw [e35] at hk2
    rw [h.at 1 rfl k (Nat.zero_le _) (by show k ≤ 3; omega), h.at 2 rfl k (Nat.zero_le _) (by show k ≤ 3; omega)]
    exact hW.1 k hk hk2
  · rw [e36] at hp2
    rw [h.at 3 rfl p (Nat.zero_le _) (by show p ≤ 4; omega), h.at 4 rfl p (Nat.zero_le _) (by show p ≤ 4; omega), h.at 5 rfl p (Nat.zero_le _) (by show p ≤ 4; omega)]
    exact hW.2 p hp hp2
theorem PW_hall {hc hc1 hc2 : ev_H} (un1 : y_un yct38_0.2.2 hc hc1) (un2 : y_un yct39_0.2.2 hc1 hc2) (hW : PW (gi hc)) (h : (gi hc1 = gi hc ∧ y_un yct27_0.2.2 hc1 hc2) ∨ ∃ ns ps hcC hcM, pV ns ps ∧ cP (gi hcC) ns ps ∧ y_un yct31_0.2.2 hc hcC ∧ gi hc1 = hallC (gi hcC) ∧ pOK (gi hcM) ns ps ∧ y_un yct27_0.2.2 hc1 hcM ∧ gi hc2 = hallM (gi hcM)) : PW (gi hc2) := by
  have k := g_dis_ok (FP := PW_FP) (by decide) un2
  rcases h with ⟨e1, u⟩ | ⟨ns, ps, hcC, hcM, hV, c1, u1, e1, p1, u2, e2⟩
  · rw [e1] at k
    exact PW_keep k hW
  · refine PW_keep k ?_
    obtain ⟨c35, c36, cn, cp⟩ := c1
    obtain ⟨v1, v2, v3, v4⟩ := hV
    rw [e1]
    refine ⟨fun q hq hq2 => ?_, fun p hp hp2 => ?_⟩
    · have hq2 : (q : Int) < gi hcC 3 5 := hq2
      rw [c35] at hq2
      have hl : q < ns.length := by omega
      obtain ⟨y1, y2⟩ := cn q ns[q] (List.getElem?_eq_getElem hl)
      show (0 ≤ gi hcC 4 q ∧ gi hcC 4 q ≤ 3) ∧ (1 ≤ gi hcC 5 q ∧ gi hcC 5 q ≤ 9)
      rw [y1, y2]
      exact v3 _ (List.getElem_mem hl)
    · have hp2 : (p : Int) < gi hcC 3 6 := hp2
      rw [c36] at hp2
      have hl : p < ps.length := by omega
      obtain ⟨y1, y2, y3⟩ := cp p ps[p] (List.getElem?_eq_getElem hl)
      show (0 ≤ gi hcC 6 p ∧ gi hcC 6 p ≤ 9) ∧ (0 ≤ gi hcC 7 p ∧ gi hcC 7 p ≤ 9) ∧ (0 ≤ gi hcC 8 p ∧ gi hcC 8 p ≤ 15)
      rw [y1, y2, y3]
      exact v4 _ (List.getElem_mem hl)
