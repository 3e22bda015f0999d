/-! acts and slots of the reference; isSomebody -/
/-- eighteen numbers of cell c from place s on, laid into cell q from place d on -/
def lay (m : Nat → Nat → Int) (c s q d : Nat) : Nat → Nat → Int := fun q' i => if q' = q ∧ d ≤ i ∧ i < d + 18 then m c (s + (i - d)) else m q' i
theorem lay_ne {m : Nat → Nat → Int} {c s q d q' i : Nat} (h : q' ≠ q) : lay m c s q d q' i = m q' i := if_neg (fun z => h z.1)
theorem lay_eq (m : Nat → Nat → Int) (c s q d : Nat) (h : c ≠ q) : (up (up (up (up (up (up (up (up (up (up (up (up (up (up (up (up (up (up m q (d + 0) (m c (s + 0))) q (d + 1) (m c (s + 1))) q (d + 2) (m c (s + 2))) q (d + 3) (m c (s + 3))) q (d + 4) (m c (s + 4))) q (d + 5) (m c (s + 5))) q (d + 6) (m c (s + 6))) q (d + 7) (m c (s + 7))) q (d + 8) (m c (s + 8))) q (d + 9) (m c (s + 9))) q (d + 10) (m c (s + 10))) q (d + 11) (m c (s + 11))) q (d + 12) (m c (s + 12))) q (d + 13) (m c (s + 13))) q (d + 14) (m c (s + 14))) q (d + 15) (m c (s + 15))) q (d + 16) (m c (s + 16))) q (d + 17) (m c (s + 17))) = lay m c s q d := by
  funext q' i
  unfold lay
  by_cases hq : q' = q
  · subst hq
    by_cases hi : d ≤ i ∧ i < d + 18
    · rw [if_pos ⟨rfl, hi.1, hi.2⟩]
      obtain ⟨k, hk⟩ : ∃ k, i = d + k := ⟨i - d, by omega⟩
      subst hk
      have : k = 0 ∨ k = 1 ∨ k = 2 ∨ k = 3 ∨ k = 4 ∨ k = 5 ∨ k = 6 ∨ k = 7 ∨ k = 8 ∨ k = 9 ∨ k = 10 ∨ k = 11 ∨ k = 12 ∨ k = 13 ∨ k = 14 ∨ k = 15 ∨ k = 16 ∨ k = 17 := by omega
      rw [show d + k - d = k by omega]
      rcases this with rfl | rfl | rfl | rfl | rfl | rfl | rfl | rfl | rfl | rfl | rfl | rfl | rfl | rfl | rfl | rfl | rfl | rfl <;> simp [up]
    · rw [if_neg (fun z => hi ⟨z.2.1, z.2.2⟩)]
      rw [up_ne (by omega), up_ne (by omega), up_ne (by omega), up_ne (by omega), up_ne (by omega), up_ne (by omega), up_ne (by omega), up_ne (by omega), up_ne (by omega), up_ne (by omega), up_ne (by omega), up_ne (by omega), up_ne (by omega), up_ne (by omega), up_ne (by omega), up_ne (by omega), up_ne (by omega), up_ne (by omega)]
  · rw [if_neg (fun z => hq z.1)]
    rw [up_nc hq, up_nc hq, up_nc hq, up_nc hq, up_nc hq, up_nc hq, up_nc hq, up_nc hq, up_nc hq, up_nc hq, up_nc hq, up_nc hq, up_nc hq, up_nc hq, up_nc hq, up_nc hq, up_nc hq, up_nc hq]
def kaM (m : Nat → Nat → Int) : Nat → Nat → Int := if m 55 16 < 14 then up (up (lay m 61 0 65 (18 * (m 55 17).toNat)) 55 17 (((m 55 17) + 1) % 14)) 55 16 ((m 55 16) + 1) else up (up (lay m 61 0 65 (18 * (m 55 17).toNat)) 55 17 (((m 55 17) + 1) % 14)) 55 16 14
set_option maxHeartbeats 1000000 in
theorem t78 {m : Nat → Nat → Int} (x1 : 0 ≤ m 55 17 ∧ m 55 17 ≤ 13) (x2 : 0 ≤ m 55 16 ∧ m 55 16 ≤ 14) : h_M 78 [.ref 55] m none (kaM m) := h_M_of (R := ev_r78) rfl (fun hc hw hm => by
  have hL : f_L (lv_args 0 [.ref 55]) [(0, .ref 55)] := f_L_of rfl
  generalize lv_args 0 [.ref 55] = L at hL
  show x_W none (0, 0, 2, 0, 11, 0, 0, 0, 0, ev_t78) 0 L [] hc 0 0 _
  have hR := gi_R hm
  refine f_s [fi (0)] rfl rfl ?_
  refine f_istn [(1, fi (0)), (0, .ref 55)] rfl (by decide) hL rfl (fun L1 hL1 => ?_)
  refine f_iln 0 rfl hL1 rfl ?_
  refine f_bipush (n := 18) rfl (by decide) ?_
  refine f_ic rfl (by decide) (by decide) (fun c_9 => absurd (show (18 : Int) ≤ (0 : Int) from c_9) (by decide)) (fun _ => ?_)
  refine f_aln 1 rfl hL1 rfl ?_
  refine m_gfr so55 rfl hw rfl (by decide) ?_
  refine f_bipush (n := 18) rfl (by decide) ?_
  refine f_aln 1 rfl hL1 rfl ?_
  refine m_gfi so55 (m 55 17) rfl hw hm rfl rfl ?_
  refine f_imul rfl ?_
  refine f_iln 0 rfl hL1 rfl ?_
  refine f_iadd rfl ?_
  refine f_aln 1 rfl hL1 rfl ?_
  refine m_gfr so55 rfl hw rfl (by decide) ?_
  refine f_iln 0 rfl hL1 rfl ?_
  refine m_ia sa61 (m 61 0) rfl hw hm (by omega) (by omega) (by decide) rfl ?_
  refine m_ias sa65 rfl hw hm (by omega) (by omega) (by decide) (hR 61 0) (fun hc1 hw1 hm1 => ?_)
  refine f_inc 0 [(1, fi (1)), (0, .ref 55)] rfl (by decide) hL1 rfl rfl (fun L2 hL2 => ?_)
  refine f_goto rfl ?_
  refine f_iln 0 rfl hL2 rfl ?_
  refine f_bipush (n := 18) rfl (by decide) ?_
  refine f_ic rfl (by decide) (by decide) (fun c_9 => absurd (show (18 : Int) ≤ (1 : Int) from c_9) (by decide)) (fun _ => ?_)
  refine f_aln 1 rfl hL2 rfl ?_
  refine m_gfr so55 rfl hw1 rfl (by decide) ?_
  refine f_bipush (n := 18) rfl (by decide) ?_
  refine f_aln 1 rfl hL2 rfl ?_
  refine m_gfi so55 (m 55 17) rfl hw1 hm1 rfl rfl ?_
  refine f_imul rfl ?_
  refine f_iln 0 rfl hL2 rfl ?_
  refine f_iadd rfl ?_
  refine f_aln 1 rfl hL2 rfl ?_
  refine m_gfr so55 rfl hw1 rfl (by decide) ?_
  refine f_iln 0 rfl hL2 rfl ?_
  refine m_ia sa61 (m 61 1) rfl hw1 hm1 (by omega) (by omega) (by decide) rfl ?_
  refine m_ias sa65 rfl hw1 hm1 (by omega) (by omega) (by decide) (hR 61 1) (fun hc2 hw2 hm2 => ?_)
  refine f_inc 0 [(1, fi (2)), (0, .ref 55)] rfl (by decide) hL2 rfl rfl (fun L3 hL3 => ?_)
  refine f_goto rfl ?_
  refine f_iln 0 rfl hL3 rfl ?_
  refine f_bipush (n := 18) rfl (by decide) ?_
  refine f_ic rfl (by decide) (by decide) (fun c_9 => absurd (show (18 : Int) ≤ (2 : Int) from c_9) (by decide)) (fun _ => ?_)
  refine f_aln 1 rfl hL3 rfl ?_
  refine m_gfr so55 rfl hw2 rfl (by decide) ?_
  refine f_bipush (n := 18) rfl (by decide) ?_
  refine f_aln 1 rfl hL3 rfl ?_
  refine m_gfi so55 (m 55 17) rfl hw2 hm2 rfl rfl ?_
  refine f_imul rfl ?_
  refine f_iln 0 rfl hL3 rfl ?_
  refine f_iadd rfl ?_
  refine f_aln 1 rfl hL3 rfl ?_
  refine m_gfr so55 rfl hw2 rfl (by decide) ?_
  refine f_iln 0 rfl hL3 rfl ?_
  refine m_ia sa61 (m 61 2) rfl hw2 hm2 (by omega) (by omega) (by decide) rfl ?_
  refine m_ias sa65 rfl hw2 hm2 (by omega) (by omega) (by decide) (hR 61 2) (fun hc3 hw3 hm3 => ?_)
  refine f_inc 0 [(1, fi (3)), (0, .ref 55)] rfl (by decide) hL3 rfl rfl (fun L4 hL4 => ?_)
  refine f_goto rfl ?_
  refine f_iln 0 rfl hL4 rfl ?_
  refine f_bipush (n := 18) rfl (by decide) ?_
  refine f_ic rfl (by decide) (by decide) (fun c_9 => absurd (show (18 : Int) ≤ (3 : Int) from c_9) (by decide)) (fun _ => ?_)
  refine f_aln 1 rfl hL4 rfl ?_
  refine m_gfr so55 rfl hw3 rfl (by decide) ?_
  refine f_bipush (n := 18) rfl (by decide) ?_
  refine f_aln 1 rfl hL4 rfl ?_
  refine m_gfi so55 (m 55 17) rfl hw3 hm3 rfl rfl ?_
  refine f_imul rfl ?_
  refine f_iln 0 rfl hL4 rfl ?_
  refine f_iadd rfl ?_
  refine f_aln 1 rfl hL4 rfl ?_
  refine m_gfr so55 rfl hw3 rfl (by decide) ?_
  refine f_iln 0 rfl hL4 rfl ?_
  refine m_ia sa61 (m 61 3) rfl hw3 hm3 (by omega) (by omega) (by decide) rfl ?_
  refine m_ias sa65 rfl hw3 hm3 (by omega) (by omega) (by decide) (hR 61 3) (fun hc4 hw4 hm4 => ?_)
  refine f_inc 0 [(1, fi (4)), (0, .ref 55)] rfl (by decide) hL4 rfl rfl (fun L5 hL5 => ?_)
  refine f_goto rfl ?_
  refine f_iln 0 rfl hL5 rfl ?_
  refine f_bipush (n := 18) rfl (by decide) ?_
  refine f_ic rfl (by decide) (by decide) (fun c_9 => absurd (show (18 : Int) ≤ (4 : Int) from c_9) (by decide)) (fun _ => ?_)
  refine f_aln 1 rfl hL5 rfl ?_
  refine m_gfr so55 rfl hw4 rfl (by decide) ?_
  refine f_bipush (n := 18) rfl (by decide) ?_
  refine f_aln 1 rfl hL5 rfl ?_
  refine m_gfi so55 (m 55 17) rfl hw4 hm4 rfl rfl ?_
  refine f_imul rfl ?_
  refine f_iln 0 rfl hL5 rfl ?_
  refine f_iadd rfl ?_
  refine f_aln 1 rfl hL5 rfl ?_
  refine m_gfr so55 rfl hw4 rfl (by decide) ?_
  refine f_iln 0 rfl hL5 rfl ?_
  refine m_ia sa61 (m 61 4) rfl hw4 hm4 (by omega) (by omega) (by decide) rfl ?_
  refine m_ias sa65 rfl hw4 hm4 (by omega) (by omega) (by decide) (hR 61 4) (fun hc5 hw5 hm5 => ?_)
  refine f_inc 0 [(1, fi (5)), (0, .ref 55)] rfl (by decide) hL5 rfl rfl (fun L6 hL6 => ?_)
  refine f_goto rfl ?_
  refine f_iln 0 rfl hL6 rfl ?_
  refine f_bipush (n := 18) rfl (by decide) ?_
  refine f_ic rfl (by decide) (by decide) (fun c_9 => absurd (show (18 : Int) ≤ (5 : Int) from c_9) (by decide)) (fun _ => ?_)
  refine f_aln 1 rfl hL6 rfl ?_
  refine m_gfr so55 rfl hw5 rfl (by decide) ?_
  refine f_bipush (n := 18) rfl (by decide) ?_
  refine f_aln 1 rfl hL6 rfl ?_
  refine m_gfi so55 (m 55 17) rfl hw5 hm5 rfl rfl ?_
  refine f_imul rfl ?_
  refine f_iln 0 rfl hL6 rfl ?_
  refine f_iadd rfl ?_
  refine f_aln 1 rfl hL6 rfl ?_
  refine m_gfr so55 rfl hw5 rfl (by decide) ?_
  refine f_iln 0 rfl hL6 rfl ?_
  refine m_ia sa61 (m 61 5) rfl hw5 hm5 (by omega) (by omega) (by decide) rfl ?_
  refine m_ias sa65 rfl hw5 hm5 (by omega) (by omega) (by decide) (hR 61 5) (fun hc6 hw6 hm6 => ?_)
  refine f_inc 0 [(1, fi (6)), (0, .ref 55)] rfl (by decide) hL6 rfl rfl (fun L7 hL7 => ?_)
  refine f_goto rfl ?_
  refine f_iln 0 rfl hL7 rfl ?_
  refine f_bipush (n := 18) rfl (by decide) ?_
  refine f_ic rfl (by decide) (by decide) (fun c_9 => absurd (show (18 : Int) ≤ (6 : Int) from c_9) (by decide)) (fun _ => ?_)
  refine f_aln 1 rfl hL7 rfl ?_
  refine m_gfr so55 rfl hw6 rfl (by decide) ?_
  refine f_bipush (n := 18) rfl (by decide) ?_
  refine f_aln 1 rfl hL7 rfl ?_
  refine m_gfi so55 (m 55 17) rfl hw6 hm6 rfl rfl ?_
  refine f_imul rfl ?_
  refine f_iln 0 rfl hL7 rfl ?_
  refine f_iadd rfl ?_
  refine f_aln 1 rfl hL7 rfl ?_
  refine m_gfr so55 rfl hw6 rfl (by decide) ?_
  refine f_iln 0 rfl hL7 rfl ?_
  refine m_ia sa61 (m 61 6) rfl hw6 hm6 (by omega) (by omega) (by decide) rfl ?_
  refine m_ias sa65 rfl hw6 hm6 (by omega) (by omega) (by decide) (hR 61 6) (fun hc7 hw7 hm7 => ?_)
  refine f_inc 0 [(1, fi (7)), (0, .ref 55)] rfl (by decide) hL7 rfl rfl (fun L8 hL8 => ?_)
  refine f_goto rfl ?_
  refine f_iln 0 rfl hL8 rfl ?_
  refine f_bipush (n := 18) rfl (by decide) ?_
  refine f_ic rfl (by decide) (by decide) (fun c_9 => absurd (show (18 : Int) ≤ (7 : Int) from c_9) (by decide)) (fun _ => ?_)
  refine f_aln 1 rfl hL8 rfl ?_
  refine m_gfr so55 rfl hw7 rfl (by decide) ?_
  refine f_bipush (n := 18) rfl (by decide) ?_
  refine f_aln 1 rfl hL8 rfl ?_
  refine m_gfi so55 (m 55 17) rfl hw7 hm7 rfl rfl ?_
  refine f_imul rfl ?_
  refine f_iln 0 rfl hL8 rfl ?_
  refine f_iadd rfl ?_
  refine f_aln 1 rfl hL8 rfl ?_
  refine m_gfr so55 rfl hw7 rfl (by decide) ?_
  refine f_iln 0 rfl hL8 rfl ?_
  refine m_ia sa61 (m 61 7) rfl hw7 hm7 (by omega) (by omega) (by decide) rfl ?_
  refine m_ias sa65 rfl hw7 hm7 (by omega) (by omega) (by decide) (hR 61 7) (fun hc8 hw8 hm8 => ?_)
  refine f_inc 0 [(1, fi (8)), (0, .ref 55)] rfl (by decide) hL8 rfl rfl (fun L9 hL9 => ?_)
  refine f_goto rfl ?_
  refine f_iln 0 rfl hL9 rfl ?_
  refine f_bipush (n := 18) rfl (by decide) ?_
  refine f_ic rfl (by decide) (by decide) (fun c_9 => absurd (show (18 : Int) ≤ (8 : Int) from c_9) (by decide)) (fun _ => ?_)
  refine f_aln 1 rfl hL9 rfl ?_
  refine m_gfr so55 rfl hw8 rfl (by decide) ?_
  refine f_bipush (n := 18) rfl (by decide) ?_
  refine f_aln 1 rfl hL9 rfl ?_
  refine m_gfi so55 (m 55 17) rfl hw8 hm8 rfl rfl ?_
  refine f_imul rfl ?_
  refine f_iln 0 rfl hL9 rfl ?_
  refine f_iadd rfl ?_
  refine f_aln 1 rfl hL9 rfl ?_
  refine m_gfr so55 rfl hw8 rfl (by decide) ?_
  refine f_iln 0 rfl hL9 rfl ?_
  refine m_ia sa61 (m 61 8) rfl hw8 hm8 (by omega) (by omega) (by decide) rfl ?_
  refine m_ias sa65 rfl hw8 hm8 (by omega) (by omega) (by decide) (hR 61 8) (fun hc9 hw9 hm9 => ?_)
  refine f_inc 0 [(1, fi (9)), (0, .ref 55)] rfl (by decide) hL9 rfl rfl (fun L10 hL10 => ?_)
  refine f_goto rfl ?_
  refine f_iln 0 rfl hL10 rfl ?_
  refine f_bipush (n := 18) rfl (by decide) ?_
  refine f_ic rfl (by decide) (by decide) (fun c_9 => absurd (show (18 : Int) ≤ (9 : Int) from c_9) (by decide)) (fun _ => ?_)
  refine f_aln 1 rfl hL10 rfl ?_
  refine m_gfr so55 rfl hw9 rfl (by decide) ?_
  refine f_bipush (n := 18) rfl (by decide) ?_
  refine f_aln 1 rfl hL10 rfl ?_
  refine m_gfi so55 (m 55 17) rfl hw9 hm9 rfl rfl ?_
  refine f_imul rfl ?_
  refine f_iln 0 rfl hL10 rfl ?_
  refine f_iadd rfl ?_
  refine f_aln 1 rfl hL10 rfl ?_
  refine m_gfr so55 rfl hw9 rfl (by decide) ?_
  refine f_iln 0 rfl hL10 rfl ?_
  refine m_ia sa61 (m 61 9) rfl hw9 hm9 (by omega) (by omega) (by decide) rfl ?_
  refine m_ias sa65 rfl hw9 hm9 (by omega) (by omega) (by decide) (hR 61 9) (fun hc10 hw10 hm10 => ?_)
  refine f_inc 0 [(1, fi (10)), (0, .ref 55)] rfl (by decide) hL10 rfl rfl (fun L11 hL11 => ?_)
  refine f_goto rfl ?_
  refine f_iln 0 rfl hL11 rfl ?_
  refine f_bipush (n := 18) rfl (by decide) ?_
  refine f_ic rfl (by decide) (by decide) (fun c_9 => absurd (show (18 : Int) ≤ (10 : Int) from c_9) (by decide)) (fun _ => ?_)
  refine f_aln 1 rfl hL11 rfl ?_
  refine m_gfr so55 rfl hw10 rfl (by decide) ?_
  refine f_bipush (n := 18) rfl (by decide) ?_
  refine f_aln 1 rfl hL11 rfl ?_
  refine m_gfi so55 (m 55 17) rfl hw10 hm10 rfl rfl ?_
  refine f_imul rfl ?_
  refine f_iln 0 rfl hL11 rfl ?_
  refine f_iadd rfl ?_
  refine f_aln 1 rfl hL11 rfl ?_
  refine m_gfr so55 rfl hw10 rfl (by decide) ?_
  refine f_iln 0 rfl hL11 rfl ?_
  refine m_ia sa61 (m 61 10) rfl hw10 hm10 (by omega) (by omega) (by decide) rfl ?_
  refine m_ias sa65 rfl hw10 hm10 (by omega) (by omega) (by decide) (hR 61 10) (fun hc11 hw11 hm11 => ?_)
  refine f_inc 0 [(1, fi (11)), (0, .ref 55)] rfl (by decide) hL11 rfl rfl (fun L12 hL12 => ?_)
  refine f_goto rfl ?_
  refine f_iln 0 rfl hL12 rfl ?_
  refine f_bipush (n := 18) rfl (by decide) ?_
  refine f_ic rfl (by decide) (by decide) (fun c_9 => absurd (show (18 : Int) ≤ (11 : Int) from c_9) (by decide)) (fun _ => ?_)
  refine f_aln 1 rfl hL12 rfl ?_
  refine m_gfr so55 rfl hw11 rfl (by decide) ?_
  refine f_bipush (n := 18) rfl (by decide) ?_
  refine f_aln 1 rfl hL12 rfl ?_
  refine m_gfi so55 (m 55 17) rfl hw11 hm11 rfl rfl ?_
  refine f_imul rfl ?_
  refine f_iln 0 rfl hL12 rfl ?_
  refine f_iadd rfl ?_
  refine f_aln 1 rfl hL12 rfl ?_
  refine m_gfr so55 rfl hw11 rfl (by decide) ?_
  refine f_iln 0 rfl hL12 rfl ?_
  refine m_ia sa61 (m 61 11) rfl hw11 hm11 (by omega) (by omega) (by decide) rfl ?_
  refine m_ias sa65 rfl hw11 hm11 (by omega) (by omega) (by decide) (hR 61 11) (fun hc12 hw12 hm12 => ?_)
  refine f_inc 0 [(1, fi (12)), (0, .ref 55)] rfl (by decide) hL12 rfl rfl (fun L13 hL13 => ?_)
  refine f_goto rfl ?_
  refine f_iln 0 rfl hL13 rfl ?_
  refine f_bipush (n := 18) rfl (by decide) ?_
  refine f_ic rfl (by decide) (by decide) (fun c_9 => absurd (show (18 : Int) ≤ (12 : Int) from c_9) (by decide)) (fun _ => ?_)
  refine f_aln 1 rfl hL13 rfl ?_
  refine m_gfr so55 rfl hw12 rfl (by decide) ?_
  refine f_bipush (n := 18) rfl (by decide) ?_
  refine f_aln 1 rfl hL13 rfl ?_
  refine m_gfi so55 (m 55 17) rfl hw12 hm12 rfl rfl ?_
  refine f_imul rfl ?_
  refine f_iln 0 rfl hL13 rfl ?_
  refine f_iadd rfl ?_
  refine f_aln 1 rfl hL13 rfl ?_
  refine m_gfr so55 rfl hw12 rfl (by decide) ?_
  refine f_iln 0 rfl hL13 rfl ?_
  refine m_ia sa61 (m 61 12) rfl hw12 hm12 (by omega) (by omega) (by decide) rfl ?_
  refine m_ias sa65 rfl hw12 hm12 (by omega) (by omega) (by decide) (hR 61 12) (fun hc13 hw13 hm13 => ?_)
  refine f_inc 0 [(1, fi (13)), (0, .ref 55)] rfl (by decide) hL13 rfl rfl (fun L14 hL14 => ?_)
  refine f_goto rfl ?_
  refine f_iln 0 rfl hL14 rfl ?_
  refine f_bipush (n := 18) rfl (by decide) ?_
  refine f_ic rfl (by decide) (by decide) (fun c_9 => absurd (show (18 : Int) ≤ (13 : Int) from c_9) (by decide)) (fun _ => ?_)
  refine f_aln 1 rfl hL14 rfl ?_
  refine m_gfr so55 rfl hw13 rfl (by decide) ?_
  refine f_bipush (n := 18) rfl (by decide) ?_
  refine f_aln 1 rfl hL14 rfl ?_
  refine m_gfi so55 (m 55 17) rfl hw13 hm13 rfl rfl ?_
  refine f_imul rfl ?_
  refine f_iln 0 rfl hL14 rfl ?_
  refine f_iadd rfl ?_
  refine f_aln 1 rfl hL14 rfl ?_
  refine m_gfr so55 rfl hw13 rfl (by decide) ?_
  refine f_iln 0 rfl hL14 rfl ?_
  refine m_ia sa61 (m 61 13) rfl hw13 hm13 (by omega) (by omega) (by decide) rfl ?_
  refine m_ias sa65 rfl hw13 hm13 (by omega) (by omega) (by decide) (hR 61 13) (fun hc14 hw14 hm14 => ?_)
  refine f_inc 0 [(1, fi (14)), (0, .ref 55)] rfl (by decide) hL14 rfl rfl (fun L15 hL15 => ?_)
  refine f_goto rfl ?_
  refine f_iln 0 rfl hL15 rfl ?_
  refine f_bipush (n := 18) rfl (by decide) ?_
  refine f_ic rfl (by decide) (by decide) (fun c_9 => absurd (show (18 : Int) ≤ (14 : Int) from c_9) (by decide)) (fun _ => ?_)
  refine f_aln 1 rfl hL15 rfl ?_
  refine m_gfr so55 rfl hw14 rfl (by decide) ?_
  refine f_bipush (n := 18) rfl (by decide) ?_
  refine f_aln 1 rfl hL15 rfl ?_
  refine m_gfi so55 (m 55 17) rfl hw14 hm14 rfl rfl ?_
  refine f_imul rfl ?_
  refine f_iln 0 rfl hL15 rfl ?_
  refine f_iadd rfl ?_
  refine f_aln 1 rfl hL15 rfl ?_
  refine m_gfr so55 rfl hw14 rfl (by decide) ?_
  refine f_iln 0 rfl hL15 rfl ?_
  refine m_ia sa61 (m 61 14) rfl hw14 hm14 (by omega) (by omega) (by decide) rfl ?_
  refine m_ias sa65 rfl hw14 hm14 (by omega) (by omega) (by decide) (hR 61 14) (fun hc15 hw15 hm15 => ?_)
  refine f_inc 0 [(1, fi (15)), (0, .ref 55)] rfl (by decide) hL15 rfl rfl (fun L16 hL16 => ?_)
  refine f_goto rfl ?_
  refine f_iln 0 rfl hL16 rfl ?_
  refine f_bipush (n := 18) rfl (by decide) ?_
  refine f_ic rfl (by decide) (by decide) (fun c_9 => absurd (show (18 : Int) ≤ (15 : Int) from c_9) (by decide)) (fun _ => ?_)
  refine f_aln 1 rfl hL16 rfl ?_
  refine m_gfr so55 rfl hw15 rfl (by decide) ?_
  refine f_bipush (n := 18) rfl (by decide) ?_
  refine f_aln 1 rfl hL16 rfl ?_
  refine m_gfi so55 (m 55 17) rfl hw15 hm15 rfl rfl ?_
  refine f_imul rfl ?_
  refine f_iln 0 rfl hL16 rfl ?_
  refine f_iadd rfl ?_
  refine f_aln 1 rfl hL16 rfl ?_
  refine m_gfr so55 rfl hw15 rfl (by decide) ?_
  refine f_iln 0 rfl hL16 rfl ?_
  refine m_ia sa61 (m 61 15) rfl hw15 hm15 (by omega) (by omega) (by decide) rfl ?_
  refine m_ias sa65 rfl hw15 hm15 (by omega) (by omega) (by decide) (hR 61 15) (fun hc16 hw16 hm16 => ?_)
  refine f_inc 0 [(1, fi (16)), (0, .ref 55)] rfl (by decide) hL16 rfl rfl (fun L17 hL17 => ?_)
  refine f_goto rfl ?_
  refine f_iln 0 rfl hL17 rfl ?_
  refine f_bipush (n := 18) rfl (by decide) ?_
  refine f_ic rfl (by decide) (by decide) (fun c_9 => absurd (show (18 : Int) ≤ (16 : Int) from c_9) (by decide)) (fun _ => ?_)
  refine f_aln 1 rfl hL17 rfl ?_
  refine m_gfr so55 rfl hw16 rfl (by decide) ?_
  refine f_bipush (n := 18) rfl (by decide) ?_
  refine f_aln 1 rfl hL17 rfl ?_
  refine m_gfi so55 (m 55 17) rfl hw16 hm16 rfl rfl ?_
  refine f_imul rfl ?_
  refine f_iln 0 rfl hL17 rfl ?_
  refine f_iadd rfl ?_
  refine f_aln 1 rfl hL17 rfl ?_
  refine m_gfr so55 rfl hw16 rfl (by decide) ?_
  refine f_iln 0 rfl hL17 rfl ?_
  refine m_ia sa61 (m 61 16) rfl hw16 hm16 (by omega) (by omega) (by decide) rfl ?_
  refine m_ias sa65 rfl hw16 hm16 (by omega) (by omega) (by decide) (hR 61 16) (fun hc17 hw17 hm17 => ?_)
  refine f_inc 0 [(1, fi (17)), (0, .ref 55)] rfl (by decide) hL17 rfl rfl (fun L18 hL18 => ?_)
  refine f_goto rfl ?_
  refine f_iln 0 rfl hL18 rfl ?_
  refine f_bipush (n := 18) rfl (by decide) ?_
  refine f_ic rfl (by decide) (by decide) (fun c_9 => absurd (show (18 : Int) ≤ (17 : Int) from c_9) (by decide)) (fun _ => ?_)
  refine f_aln 1 rfl hL18 rfl ?_
  refine m_gfr so55 rfl hw17 rfl (by decide) ?_
  refine f_bipush (n := 18) rfl (by decide) ?_
  refine f_aln 1 rfl hL18 rfl ?_
  refine m_gfi so55 (m 55 17) rfl hw17 hm17 rfl rfl ?_
  refine f_imul rfl ?_
  refine f_iln 0 rfl hL18 rfl ?_
  refine f_iadd rfl ?_
  refine f_aln 1 rfl hL18 rfl ?_
  refine m_gfr so55 rfl hw17 rfl (by decide) ?_
  refine f_iln 0 rfl hL18 rfl ?_
  refine m_ia sa61 (m 61 17) rfl hw17 hm17 (by omega) (by omega) (by decide) rfl ?_
  refine m_ias sa65 rfl hw17 hm17 (by omega) (by omega) (by decide) (hR 61 17) (fun hc18 hw18 hm18 => ?_)
  refine f_inc 0 [(1, fi (18)), (0, .ref 55)] rfl (by decide) hL18 rfl rfl (fun L19 hL19 => ?_)
  refine f_goto rfl ?_
  refine f_iln 0 rfl hL19 rfl ?_
  refine f_bipush (n := 18) rfl (by decide) ?_
  refine f_ic rfl (by decide) (by decide) (fun _ => ?_) (fun c_9 => absurd (show (18 : Int) ≤ (18 : Int) from (by decide)) c_9)
  refine f_aln 1 rfl hL19 rfl ?_
  refine f_aln 1 rfl hL19 rfl ?_
  refine m_gfi so55 (m 55 17) rfl hw18 hm18 rfl rfl ?_
  refine f_s [fi (1), fi (m 55 17), .ref 55] rfl rfl ?_
  refine f_iadd rfl ?_
  refine f_bipush (n := 14) rfl (by decide) ?_
  refine f_irem rfl (by omega) (by omega) (by decide) (by decide) ?_
  refine m_pf so55 rfl hw18 hm18 rfl rfl (by omega) (fun hc19 hw19 hm19 => ?_)
  refine f_aln 1 rfl hL19 rfl ?_
  refine f_aln 1 rfl hL19 rfl ?_
  refine m_gfi so55 (m 55 16) rfl hw19 hm19 rfl rfl ?_
  refine f_bipush (n := 14) rfl (by decide) ?_
  refine f_ic rfl (by omega) (by decide) (fun c1 => ?_) (fun c1 => ?_)
  · have c1 : (14 : Int) ≤ (m 55 16 : Int) := c1
    refine f_bipush (n := 14) rfl (by decide) ?_
    refine m_pf so55 rfl hw19 hm19 rfl rfl (by decide) (fun hc20 hw20 hm20 => ?_)
    have key : gi hc20 = up (up (lay m 61 0 65 (18 * (m 55 17).toNat)) 55 17 (((m 55 17) + 1) % 14)) 55 16 (14) := by
      rw [hm20, ← lay_eq m 61 0 65 (18 * (m 55 17).toNat) (by decide)]
      rw [show ((18 * (m 55 17)) + 0).toNat = 18 * (m 55 17).toNat + 0 by omega]
      rw [show ((18 * (m 55 17)) + 1).toNat = 18 * (m 55 17).toNat + 1 by omega]
      rw [show ((18 * (m 55 17)) + 2).toNat = 18 * (m 55 17).toNat + 2 by omega]
      rw [show ((18 * (m 55 17)) + 3).toNat = 18 * (m 55 17).toNat + 3 by omega]
      rw [show ((18 * (m 55 17)) + 4).toNat = 18 * (m 55 17).toNat + 4 by omega]
      rw [show ((18 * (m 55 17)) + 5).toNat = 18 * (m 55 17).toNat + 5 by omega]
      rw [show ((18 * (m 55 17)) + 6).toNat = 18 * (m 55 17).toNat + 6 by omega]
      rw [show ((18 * (m 55 17)) + 7).toNat = 18 * (m 55 17).toNat + 7 by omega]
      rw [show ((18 * (m 55 17)) + 8).toNat = 18 * (m 55 17).toNat + 8 by omega]
      rw [show ((18 * (m 55 17)) + 9).toNat = 18 * (m 55 17).toNat + 9 by omega]
      rw [show ((18 * (m 55 17)) + 10).toNat = 18 * (m 55 17).toNat + 10 by omega]
      rw [show ((18 * (m 55 17)) + 11).toNat = 18 * (m 55 17).toNat + 11 by omega]
      rw [show ((18 * (m 55 17)) + 12).toNat = 18 * (m 55 17).toNat + 12 by omega]
      rw [show ((18 * (m 55 17)) + 13).toNat = 18 * (m 55 17).toNat + 13 by omega]
      rw [show ((18 * (m 55 17)) + 14).toNat = 18 * (m 55 17).toNat + 14 by omega]
      rw [show ((18 * (m 55 17)) + 15).toNat = 18 * (m 55 17).toNat + 15 by omega]
      rw [show ((18 * (m 55 17)) + 16).toNat = 18 * (m 55 17).toNat + 16 by omega]
      rw [show ((18 * (m 55 17)) + 17).toNat = 18 * (m 55 17).toNat + 17 by omega]
      try rfl
    exact m_ret0 rfl ⟨rfl, hw20, by rw [key]; unfold kaM; rw [if_neg (by omega)]⟩
  · have c1 : ¬ ((14 : Int) ≤ (m 55 16 : Int)) := c1
    refine f_aln 1 rfl hL19 rfl ?_
    refine m_gfi so55 (m 55 16) rfl hw19 hm19 rfl rfl ?_
    refine f_s [fi (1), fi (m 55 16), .ref 55] rfl rfl ?_
    refine f_iadd rfl ?_
    refine f_goto rfl ?_
    refine m_pf so55 rfl hw19 hm19 rfl rfl (by omega) (fun hc21 hw21 hm21 => ?_)
    have key : gi hc21 = up (up (lay m 61 0 65 (18 * (m 55 17).toNat)) 55 17 (((m 55 17) + 1) % 14)) 55 16 ((m 55 16) + 1) := by
      rw [hm21, ← lay_eq m 61 0 65 (18 * (m 55 17).toNat) (by decide)]
      rw [show ((18 * (m 55 17)) + 0).toNat = 18 * (m 55 17).toNat + 0 by omega]
      rw [show ((18 * (m 55 17)) + 1).toNat = 18 * (m 55 17).toNat + 1 by omega]
      rw [show ((18 * (m 55 17)) + 2).toNat = 18 * (m 55 17).toNat + 2 by omega]
      rw [show ((18 * (m 55 17)) + 3).toNat = 18 * (m 55 17).toNat + 3 by omega]
      rw [show ((18 * (m 55 17)) + 4).toNat = 18 * (m 55 17).toNat + 4 by omega]
      rw [show ((18 * (m 55 17)) + 5).toNat = 18 * (m 55 17).toNat + 5 by omega]
      rw [show ((18 * (m 55 17)) + 6).toNat = 18 * (m 55 17).toNat + 6 by omega]
      rw [show ((18 * (m 55 17)) + 7).toNat = 18 * (m 55 17).toNat + 7 by omega]
      rw [show ((18 * (m 55 17)) + 8).toNat = 18 * (m 55 17).toNat + 8 by omega]
      rw [show ((18 * (m 55 17)) + 9).toNat = 18 * (m 55 17).toNat + 9 by omega]
      rw [show ((18 * (m 55 17)) + 10).toNat = 18 * (m 55 17).toNat + 10 by omega]
      rw [show ((18 * (m 55 17)) + 11).toNat = 18 * (m 55 17).toNat + 11 by omega]
      rw [show ((18 * (m 55 17)) + 12).toNat = 18 * (m 55 17).toNat + 12 by omega]
      rw [show ((18 * (m 55 17)) + 13).toNat = 18 * (m 55 17).toNat + 13 by omega]
      rw [show ((18 * (m 55 17)) + 14).toNat = 18 * (m 55 17).toNat + 14 by omega]
      rw [show ((18 * (m 55 17)) + 15).toNat = 18 * (m 55 17).toNat + 15 by omega]
      rw [show ((18 * (m 55 17)) + 16).toNat = 18 * (m 55 17).toNat + 16 by omega]
      rw [show ((18 * (m 55 17)) + 17).toNat = 18 * (m 55 17).toNat + 17 by omega]
      try rfl
    exact m_ret0 rfl ⟨rfl, hw21, by rw [key]; unfold kaM; rw [if_pos (by omega)]⟩)
