/-! undo, keep, again, isSomebody of the reference -/
def unM (m : Nat → Nat → Int) : Nat → Nat → Int := lay (up (up m 55 16 ((m 55 16) - 1)) 55 17 (((m 55 17) + 13) % 14)) 65 (18 * (((m 55 17) + 13) % 14).toNat) 61 0
theorem t100_none {m : Nat → Nat → Int} (h0 : m 55 16 = 0) : h_M 100 [.ref 55] m (some (fi (-3))) m := h_M_of (R := ev_r100) rfl (fun hc hw hm => by
  have hL : f_L (lv_args 0 [.ref 55]) [(0, .ref 55)] := f_L_of rfl
  generalize lv_args 0 [.ref 55] = L at hL
  show x_W none (1, 0, 2, 0, 11, 0, 0, 0, 0, ev_t100) 0 L [] hc 0 0 _
  have hR := gi_R hm
  refine f_aln 0 rfl hL rfl ?_
  refine m_gfi so55 (m 55 16) rfl hw hm rfl rfl ?_
  refine f_if rfl (by omega) (fun c_9 => absurd (show ¬ (m 55 16 : Int) = (0 : Int) from c_9) (by omega)) (fun _ => ?_)
  refine f_bipush (n := -3) rfl (by decide) ?_
  exact f_ret1 rfl ⟨rfl, hw, hm⟩)
set_option maxHeartbeats 1000000 in
theorem t100_ok {m : Nat → Nat → Int} (x1 : 0 ≤ m 55 17 ∧ m 55 17 ≤ 13) (x2 : 0 ≤ m 55 16 ∧ m 55 16 ≤ 14) (h0 : ¬ m 55 16 = 0) : h_M 100 [.ref 55] m (some (fi ((m 55 16) - 1))) (unM m) := h_M_of (R := ev_r100) rfl (fun hc hw hm => by
  have hL : f_L (lv_args 0 [.ref 55]) [(0, .ref 55)] := f_L_of rfl
  generalize lv_args 0 [.ref 55] = L at hL
  show x_W none (1, 0, 2, 0, 11, 0, 0, 0, 0, ev_t100) 0 L [] hc 0 0 _
  have hR := gi_R hm
  refine f_aln 0 rfl hL rfl ?_
  refine m_gfi so55 (m 55 16) rfl hw hm rfl rfl ?_
  refine f_if rfl (by omega) (fun _ => ?_) (fun c_9 => absurd (show ¬ (m 55 16 : Int) = (0 : Int) from (by omega)) c_9)
  refine f_aln 0 rfl hL rfl ?_
  refine f_s [.ref 55, .ref 55] rfl rfl ?_
  refine m_gfi so55 (m 55 16) rfl hw hm rfl rfl ?_
  refine f_s [fi (1), fi (m 55 16), .ref 55] rfl rfl ?_
  refine f_isub rfl ?_
  refine m_pf so55 rfl hw hm rfl rfl (by omega) (fun hc1 hw1 hm1 => ?_)
  refine f_aln 0 rfl hL rfl ?_
  refine f_aln 0 rfl hL rfl ?_
  refine m_gfi so55 (m 55 17) rfl hw1 hm1 rfl rfl ?_
  refine f_bipush (n := 13) rfl (by decide) ?_
  refine f_iadd rfl ?_
  refine f_bipush (n := 14) rfl (by decide) ?_
  refine f_irem rfl (by omega) (by omega) (by decide) (by decide) ?_
  refine m_pf so55 rfl hw1 hm1 rfl rfl (by omega) (fun hc2 hw2 hm2 => ?_)
  refine f_s [fi (0)] rfl rfl ?_
  refine f_istn [(1, fi (0)), (0, .ref 55)] rfl (by decide) hL rfl (fun L1 hL1 => ?_)
  refine f_iln 0 rfl hL1 rfl ?_
  refine f_bipush (n := 18) rfl (by decide) ?_
  refine f_ic rfl (by decide) (by decide) (fun c_9 => absurd (show (18 : Int) ≤ (0 : Int) from c_9) (by decide)) (fun _ => ?_)
  refine f_aln 1 rfl hL1 rfl ?_
  refine m_gfr so55 rfl hw2 rfl (by decide) ?_
  refine f_iln 0 rfl hL1 rfl ?_
  refine f_aln 1 rfl hL1 rfl ?_
  refine m_gfr so55 rfl hw2 rfl (by decide) ?_
  refine f_bipush (n := 18) rfl (by decide) ?_
  refine f_aln 1 rfl hL1 rfl ?_
  refine m_gfi so55 (((m 55 17) + 13) % (14)) rfl hw2 hm2 rfl rfl ?_
  refine f_imul rfl ?_
  refine f_iln 0 rfl hL1 rfl ?_
  refine f_iadd rfl ?_
  refine m_ia sa65 (m 65 ((18 * (((m 55 17) + 13) % (14))) + 0).toNat) rfl hw2 hm2 (by omega) (by omega) (by decide) rfl ?_
  refine m_ias sa61 rfl hw2 hm2 (by omega) (by omega) (by decide) (hR 65 ((18 * (((m 55 17) + 13) % (14))) + 0).toNat) (fun hc3 hw3 hm3 => ?_)
  refine f_inc 0 [(1, fi (1)), (0, .ref 55)] rfl (by decide) hL1 rfl rfl (fun L2 hL2 => ?_)
  refine f_goto rfl ?_
  refine f_iln 0 rfl hL2 rfl ?_
  refine f_bipush (n := 18) rfl (by decide) ?_
  refine f_ic rfl (by decide) (by decide) (fun c_9 => absurd (show (18 : Int) ≤ (1 : Int) from c_9) (by decide)) (fun _ => ?_)
  refine f_aln 1 rfl hL2 rfl ?_
  refine m_gfr so55 rfl hw3 rfl (by decide) ?_
  refine f_iln 0 rfl hL2 rfl ?_
  refine f_aln 1 rfl hL2 rfl ?_
  refine m_gfr so55 rfl hw3 rfl (by decide) ?_
  refine f_bipush (n := 18) rfl (by decide) ?_
  refine f_aln 1 rfl hL2 rfl ?_
  refine m_gfi so55 (((m 55 17) + 13) % (14)) rfl hw3 hm3 rfl rfl ?_
  refine f_imul rfl ?_
  refine f_iln 0 rfl hL2 rfl ?_
  refine f_iadd rfl ?_
  refine m_ia sa65 (m 65 ((18 * (((m 55 17) + 13) % (14))) + 1).toNat) rfl hw3 hm3 (by omega) (by omega) (by decide) rfl ?_
  refine m_ias sa61 rfl hw3 hm3 (by omega) (by omega) (by decide) (hR 65 ((18 * (((m 55 17) + 13) % (14))) + 1).toNat) (fun hc4 hw4 hm4 => ?_)
  refine f_inc 0 [(1, fi (2)), (0, .ref 55)] rfl (by decide) hL2 rfl rfl (fun L3 hL3 => ?_)
  refine f_goto rfl ?_
  refine f_iln 0 rfl hL3 rfl ?_
  refine f_bipush (n := 18) rfl (by decide) ?_
  refine f_ic rfl (by decide) (by decide) (fun c_9 => absurd (show (18 : Int) ≤ (2 : Int) from c_9) (by decide)) (fun _ => ?_)
  refine f_aln 1 rfl hL3 rfl ?_
  refine m_gfr so55 rfl hw4 rfl (by decide) ?_
  refine f_iln 0 rfl hL3 rfl ?_
  refine f_aln 1 rfl hL3 rfl ?_
  refine m_gfr so55 rfl hw4 rfl (by decide) ?_
  refine f_bipush (n := 18) rfl (by decide) ?_
  refine f_aln 1 rfl hL3 rfl ?_
  refine m_gfi so55 (((m 55 17) + 13) % (14)) rfl hw4 hm4 rfl rfl ?_
  refine f_imul rfl ?_
  refine f_iln 0 rfl hL3 rfl ?_
  refine f_iadd rfl ?_
  refine m_ia sa65 (m 65 ((18 * (((m 55 17) + 13) % (14))) + 2).toNat) rfl hw4 hm4 (by omega) (by omega) (by decide) rfl ?_
  refine m_ias sa61 rfl hw4 hm4 (by omega) (by omega) (by decide) (hR 65 ((18 * (((m 55 17) + 13) % (14))) + 2).toNat) (fun hc5 hw5 hm5 => ?_)
  refine f_inc 0 [(1, fi (3)), (0, .ref 55)] rfl (by decide) hL3 rfl rfl (fun L4 hL4 => ?_)
  refine f_goto rfl ?_
  refine f_iln 0 rfl hL4 rfl ?_
  refine f_bipush (n := 18) rfl (by decide) ?_
  refine f_ic rfl (by decide) (by decide) (fun c_9 => absurd (show (18 : Int) ≤ (3 : Int) from c_9) (by decide)) (fun _ => ?_)
  refine f_aln 1 rfl hL4 rfl ?_
  refine m_gfr so55 rfl hw5 rfl (by decide) ?_
  refine f_iln 0 rfl hL4 rfl ?_
  refine f_aln 1 rfl hL4 rfl ?_
  refine m_gfr so55 rfl hw5 rfl (by decide) ?_
  refine f_bipush (n := 18) rfl (by decide) ?_
  refine f_aln 1 rfl hL4 rfl ?_
  refine m_gfi so55 (((m 55 17) + 13) % (14)) rfl hw5 hm5 rfl rfl ?_
  refine f_imul rfl ?_
  refine f_iln 0 rfl hL4 rfl ?_
  refine f_iadd rfl ?_
  refine m_ia sa65 (m 65 ((18 * (((m 55 17) + 13) % (14))) + 3).toNat) rfl hw5 hm5 (by omega) (by omega) (by decide) rfl ?_
  refine m_ias sa61 rfl hw5 hm5 (by omega) (by omega) (by decide) (hR 65 ((18 * (((m 55 17) + 13) % (14))) + 3).toNat) (fun hc6 hw6 hm6 => ?_)
  refine f_inc 0 [(1, fi (4)), (0, .ref 55)] rfl (by decide) hL4 rfl rfl (fun L5 hL5 => ?_)
  refine f_goto rfl ?_
  refine f_iln 0 rfl hL5 rfl ?_
  refine f_bipush (n := 18) rfl (by decide) ?_
  refine f_ic rfl (by decide) (by decide) (fun c_9 => absurd (show (18 : Int) ≤ (4 : Int) from c_9) (by decide)) (fun _ => ?_)
  refine f_aln 1 rfl hL5 rfl ?_
  refine m_gfr so55 rfl hw6 rfl (by decide) ?_
  refine f_iln 0 rfl hL5 rfl ?_
  refine f_aln 1 rfl hL5 rfl ?_
  refine m_gfr so55 rfl hw6 rfl (by decide) ?_
  refine f_bipush (n := 18) rfl (by decide) ?_
  refine f_aln 1 rfl hL5 rfl ?_
  refine m_gfi so55 (((m 55 17) + 13) % (14)) rfl hw6 hm6 rfl rfl ?_
  refine f_imul rfl ?_
  refine f_iln 0 rfl hL5 rfl ?_
  refine f_iadd rfl ?_
  refine m_ia sa65 (m 65 ((18 * (((m 55 17) + 13) % (14))) + 4).toNat) rfl hw6 hm6 (by omega) (by omega) (by decide) rfl ?_
  refine m_ias sa61 rfl hw6 hm6 (by omega) (by omega) (by decide) (hR 65 ((18 * (((m 55 17) + 13) % (14))) + 4).toNat) (fun hc7 hw7 hm7 => ?_)
  refine f_inc 0 [(1, fi (5)), (0, .ref 55)] rfl (by decide) hL5 rfl rfl (fun L6 hL6 => ?_)
  refine f_goto rfl ?_
  refine f_iln 0 rfl hL6 rfl ?_
  refine f_bipush (n := 18) rfl (by decide) ?_
  refine f_ic rfl (by decide) (by decide) (fun c_9 => absurd (show (18 : Int) ≤ (5 : Int) from c_9) (by decide)) (fun _ => ?_)
  refine f_aln 1 rfl hL6 rfl ?_
  refine m_gfr so55 rfl hw7 rfl (by decide) ?_
  refine f_iln 0 rfl hL6 rfl ?_
  refine f_aln 1 rfl hL6 rfl ?_
  refine m_gfr so55 rfl hw7 rfl (by decide) ?_
  refine f_bipush (n := 18) rfl (by decide) ?_
  refine f_aln 1 rfl hL6 rfl ?_
  refine m_gfi so55 (((m 55 17) + 13) % (14)) rfl hw7 hm7 rfl rfl ?_
  refine f_imul rfl ?_
  refine f_iln 0 rfl hL6 rfl ?_
  refine f_iadd rfl ?_
  refine m_ia sa65 (m 65 ((18 * (((m 55 17) + 13) % (14))) + 5).toNat) rfl hw7 hm7 (by omega) (by omega) (by decide) rfl ?_
  refine m_ias sa61 rfl hw7 hm7 (by omega) (by omega) (by decide) (hR 65 ((18 * (((m 55 17) + 13) % (14))) + 5).toNat) (fun hc8 hw8 hm8 => ?_)
  refine f_inc 0 [(1, fi (6)), (0, .ref 55)] rfl (by decide) hL6 rfl rfl (fun L7 hL7 => ?_)
  refine f_goto rfl ?_
  refine f_iln 0 rfl hL7 rfl ?_
  refine f_bipush (n := 18) rfl (by decide) ?_
  refine f_ic rfl (by decide) (by decide) (fun c_9 => absurd (show (18 : Int) ≤ (6 : Int) from c_9) (by decide)) (fun _ => ?_)
  refine f_aln 1 rfl hL7 rfl ?_
  refine m_gfr so55 rfl hw8 rfl (by decide) ?_
  refine f_iln 0 rfl hL7 rfl ?_
  refine f_aln 1 rfl hL7 rfl ?_
  refine m_gfr so55 rfl hw8 rfl (by decide) ?_
  refine f_bipush (n := 18) rfl (by decide) ?_
  refine f_aln 1 rfl hL7 rfl ?_
  refine m_gfi so55 (((m 55 17) + 13) % (14)) rfl hw8 hm8 rfl rfl ?_
  refine f_imul rfl ?_
  refine f_iln 0 rfl hL7 rfl ?_
  refine f_iadd rfl ?_
  refine m_ia sa65 (m 65 ((18 * (((m 55 17) + 13) % (14))) + 6).toNat) rfl hw8 hm8 (by omega) (by omega) (by decide) rfl ?_
  refine m_ias sa61 rfl hw8 hm8 (by omega) (by omega) (by decide) (hR 65 ((18 * (((m 55 17) + 13) % (14))) + 6).toNat) (fun hc9 hw9 hm9 => ?_)
  refine f_inc 0 [(1, fi (7)), (0, .ref 55)] rfl (by decide) hL7 rfl rfl (fun L8 hL8 => ?_)
  refine f_goto rfl ?_
  refine f_iln 0 rfl hL8 rfl ?_
  refine f_bipush (n := 18) rfl (by decide) ?_
  refine f_ic rfl (by decide) (by decide) (fun c_9 => absurd (show (18 : Int) ≤ (7 : Int) from c_9) (by decide)) (fun _ => ?_)
  refine f_aln 1 rfl hL8 rfl ?_
  refine m_gfr so55 rfl hw9 rfl (by decide) ?_
  refine f_iln 0 rfl hL8 rfl ?_
  refine f_aln 1 rfl hL8 rfl ?_
  refine m_gfr so55 rfl hw9 rfl (by decide) ?_
  refine f_bipush (n := 18) rfl (by decide) ?_
  refine f_aln 1 rfl hL8 rfl ?_
  refine m_gfi so55 (((m 55 17) + 13) % (14)) rfl hw9 hm9 rfl rfl ?_
  refine f_imul rfl ?_
  refine f_iln 0 rfl hL8 rfl ?_
  refine f_iadd rfl ?_
  refine m_ia sa65 (m 65 ((18 * (((m 55 17) + 13) % (14))) + 7).toNat) rfl hw9 hm9 (by omega) (by omega) (by decide) rfl ?_
  refine m_ias sa61 rfl hw9 hm9 (by omega) (by omega) (by decide) (hR 65 ((18 * (((m 55 17) + 13) % (14))) + 7).toNat) (fun hc10 hw10 hm10 => ?_)
  refine f_inc 0 [(1, fi (8)), (0, .ref 55)] rfl (by decide) hL8 rfl rfl (fun L9 hL9 => ?_)
  refine f_goto rfl ?_
  refine f_iln 0 rfl hL9 rfl ?_
  refine f_bipush (n := 18) rfl (by decide) ?_
  refine f_ic rfl (by decide) (by decide) (fun c_9 => absurd (show (18 : Int) ≤ (8 : Int) from c_9) (by decide)) (fun _ => ?_)
  refine f_aln 1 rfl hL9 rfl ?_
  refine m_gfr so55 rfl hw10 rfl (by decide) ?_
  refine f_iln 0 rfl hL9 rfl ?_
  refine f_aln 1 rfl hL9 rfl ?_
  refine m_gfr so55 rfl hw10 rfl (by decide) ?_
  refine f_bipush (n := 18) rfl (by decide) ?_
  refine f_aln 1 rfl hL9 rfl ?_
  refine m_gfi so55 (((m 55 17) + 13) % (14)) rfl hw10 hm10 rfl rfl ?_
  refine f_imul rfl ?_
  refine f_iln 0 rfl hL9 rfl ?_
  refine f_iadd rfl ?_
  refine m_ia sa65 (m 65 ((18 * (((m 55 17) + 13) % (14))) + 8).toNat) rfl hw10 hm10 (by omega) (by omega) (by decide) rfl ?_
  refine m_ias sa61 rfl hw10 hm10 (by omega) (by omega) (by decide) (hR 65 ((18 * (((m 55 17) + 13) % (14))) + 8).toNat) (fun hc11 hw11 hm11 => ?_)
  refine f_inc 0 [(1, fi (9)), (0, .ref 55)] rfl (by decide) hL9 rfl rfl (fun L10 hL10 => ?_)
  refine f_goto rfl ?_
  refine f_iln 0 rfl hL10 rfl ?_
  refine f_bipush (n := 18) rfl (by decide) ?_
  refine f_ic rfl (by decide) (by decide) (fun c_9 => absurd (show (18 : Int) ≤ (9 : Int) from c_9) (by decide)) (fun _ => ?_)
  refine f_aln 1 rfl hL10 rfl ?_
  refine m_gfr so55 rfl hw11 rfl (by decide) ?_
  refine f_iln 0 rfl hL10 rfl ?_
  refine f_aln 1 rfl hL10 rfl ?_
  refine m_gfr so55 rfl hw11 rfl (by decide) ?_
  refine f_bipush (n := 18) rfl (by decide) ?_
  refine f_aln 1 rfl hL10 rfl ?_
  refine m_gfi so55 (((m 55 17) + 13) % (14)) rfl hw11 hm11 rfl rfl ?_
  refine f_imul rfl ?_
  refine f_iln 0 rfl hL10 rfl ?_
  refine f_iadd rfl ?_
  refine m_ia sa65 (m 65 ((18 * (((m 55 17) + 13) % (14))) + 9).toNat) rfl hw11 hm11 (by omega) (by omega) (by decide) rfl ?_
  refine m_ias sa61 rfl hw11 hm11 (by omega) (by omega) (by decide) (hR 65 ((18 * (((m 55 17) + 13) % (14))) + 9).toNat) (fun hc12 hw12 hm12 => ?_)
  refine f_inc 0 [(1, fi (10)), (0, .ref 55)] rfl (by decide) hL10 rfl rfl (fun L11 hL11 => ?_)
  refine f_goto rfl ?_
  refine f_iln 0 rfl hL11 rfl ?_
  refine f_bipush (n := 18) rfl (by decide) ?_
  refine f_ic rfl (by decide) (by decide) (fun c_9 => absurd (show (18 : Int) ≤ (10 : Int) from c_9) (by decide)) (fun _ => ?_)
  refine f_aln 1 rfl hL11 rfl ?_
  refine m_gfr so55 rfl hw12 rfl (by decide) ?_
  refine f_iln 0 rfl hL11 rfl ?_
  refine f_aln 1 rfl hL11 rfl ?_
  refine m_gfr so55 rfl hw12 rfl (by decide) ?_
  refine f_bipush (n := 18) rfl (by decide) ?_
  refine f_aln 1 rfl hL11 rfl ?_
  refine m_gfi so55 (((m 55 17) + 13) % (14)) rfl hw12 hm12 rfl rfl ?_
  refine f_imul rfl ?_
  refine f_iln 0 rfl hL11 rfl ?_
  refine f_iadd rfl ?_
  refine m_ia sa65 (m 65 ((18 * (((m 55 17) + 13) % (14))) + 10).toNat) rfl hw12 hm12 (by omega) (by omega) (by decide) rfl ?_
  refine m_ias sa61 rfl hw12 hm12 (by omega) (by omega) (by decide) (hR 65 ((18 * (((m 55 17) + 13) % (14))) + 10).toNat) (fun hc13 hw13 hm13 => ?_)
  refine f_inc 0 [(1, fi (11)), (0, .ref 55)] rfl (by decide) hL11 rfl rfl (fun L12 hL12 => ?_)
  refine f_goto rfl ?_
  refine f_iln 0 rfl hL12 rfl ?_
  refine f_bipush (n := 18) rfl (by decide) ?_
  refine f_ic rfl (by decide) (by decide) (fun c_9 => absurd (show (18 : Int) ≤ (11 : Int) from c_9) (by decide)) (fun _ => ?_)
  refine f_aln 1 rfl hL12 rfl ?_
  refine m_gfr so55 rfl hw13 rfl (by decide) ?_
  refine f_iln 0 rfl hL12 rfl ?_
  refine f_aln 1 rfl hL12 rfl ?_
  refine m_gfr so55 rfl hw13 rfl (by decide) ?_
  refine f_bipush (n := 18) rfl (by decide) ?_
  refine f_aln 1 rfl hL12 rfl ?_
  refine m_gfi so55 (((m 55 17) + 13) % (14)) rfl hw13 hm13 rfl rfl ?_
  refine f_imul rfl ?_
  refine f_iln 0 rfl hL12 rfl ?_
  refine f_iadd rfl ?_
  refine m_ia sa65 (m 65 ((18 * (((m 55 17) + 13) % (14))) + 11).toNat) rfl hw13 hm13 (by omega) (by omega) (by decide) rfl ?_
  refine m_ias sa61 rfl hw13 hm13 (by omega) (by omega) (by decide) (hR 65 ((18 * (((m 55 17) + 13) % (14))) + 11).toNat) (fun hc14 hw14 hm14 => ?_)
  refine f_inc 0 [(1, fi (12)), (0, .ref 55)] rfl (by decide) hL12 rfl rfl (fun L13 hL13 => ?_)
  refine f_goto rfl ?_
  refine f_iln 0 rfl hL13 rfl ?_
  refine f_bipush (n := 18) rfl (by decide) ?_
  refine f_ic rfl (by decide) (by decide) (fun c_9 => absurd (show (18 : Int) ≤ (12 : Int) from c_9) (by decide)) (fun _ => ?_)
  refine f_aln 1 rfl hL13 rfl ?_
  refine m_gfr so55 rfl hw14 rfl (by decide) ?_
  refine f_iln 0 rfl hL13 rfl ?_
  refine f_aln 1 rfl hL13 rfl ?_
  refine m_gfr so55 rfl hw14 rfl (by decide) ?_
  refine f_bipush (n := 18) rfl (by decide) ?_
  refine f_aln 1 rfl hL13 rfl ?_
  refine m_gfi so55 (((m 55 17) + 13) % (14)) rfl hw14 hm14 rfl rfl ?_
  refine f_imul rfl ?_
  refine f_iln 0 rfl hL13 rfl ?_
  refine f_iadd rfl ?_
  refine m_ia sa65 (m 65 ((18 * (((m 55 17) + 13) % (14))) + 12).toNat) rfl hw14 hm14 (by omega) (by omega) (by decide) rfl ?_
  refine m_ias sa61 rfl hw14 hm14 (by omega) (by omega) (by decide) (hR 65 ((18 * (((m 55 17) + 13) % (14))) + 12).toNat) (fun hc15 hw15 hm15 => ?_)
  refine f_inc 0 [(1, fi (13)), (0, .ref 55)] rfl (by decide) hL13 rfl rfl (fun L14 hL14 => ?_)
  refine f_goto rfl ?_
  refine f_iln 0 rfl hL14 rfl ?_
  refine f_bipush (n := 18) rfl (by decide) ?_
  refine f_ic rfl (by decide) (by decide) (fun c_9 => absurd (show (18 : Int) ≤ (13 : Int) from c_9) (by decide)) (fun _ => ?_)
  refine f_aln 1 rfl hL14 rfl ?_
  refine m_gfr so55 rfl hw15 rfl (by decide) ?_
  refine f_iln 0 rfl hL14 rfl ?_
  refine f_aln 1 rfl hL14 rfl ?_
  refine m_gfr so55 rfl hw15 rfl (by decide) ?_
  refine f_bipush (n := 18) rfl (by decide) ?_
  refine f_aln 1 rfl hL14 rfl ?_
  refine m_gfi so55 (((m 55 17) + 13) % (14)) rfl hw15 hm15 rfl rfl ?_
  refine f_imul rfl ?_
  refine f_iln 0 rfl hL14 rfl ?_
  refine f_iadd rfl ?_
  refine m_ia sa65 (m 65 ((18 * (((m 55 17) + 13) % (14))) + 13).toNat) rfl hw15 hm15 (by omega) (by omega) (by decide) rfl ?_
  refine m_ias sa61 rfl hw15 hm15 (by omega) (by omega) (by decide) (hR 65 ((18 * (((m 55 17) + 13) % (14))) + 13).toNat) (fun hc16 hw16 hm16 => ?_)
  refine f_inc 0 [(1, fi (14)), (0, .ref 55)] rfl (by decide) hL14 rfl rfl (fun L15 hL15 => ?_)
  refine f_goto rfl ?_
  refine f_iln 0 rfl hL15 rfl ?_
  refine f_bipush (n := 18) rfl (by decide) ?_
  refine f_ic rfl (by decide) (by decide) (fun c_9 => absurd (show (18 : Int) ≤ (14 : Int) from c_9) (by decide)) (fun _ => ?_)
  refine f_aln 1 rfl hL15 rfl ?_
  refine m_gfr so55 rfl hw16 rfl (by decide) ?_
  refine f_iln 0 rfl hL15 rfl ?_
  refine f_aln 1 rfl hL15 rfl ?_
  refine m_gfr so55 rfl hw16 rfl (by decide) ?_
  refine f_bipush (n := 18) rfl (by decide) ?_
  refine f_aln 1 rfl hL15 rfl ?_
  refine m_gfi so55 (((m 55 17) + 13) % (14)) rfl hw16 hm16 rfl rfl ?_
  refine f_imul rfl ?_
  refine f_iln 0 rfl hL15 rfl ?_
  refine f_iadd rfl ?_
  refine m_ia sa65 (m 65 ((18 * (((m 55 17) + 13) % (14))) + 14).toNat) rfl hw16 hm16 (by omega) (by omega) (by decide) rfl ?_
  refine m_ias sa61 rfl hw16 hm16 (by omega) (by omega) (by decide) (hR 65 ((18 * (((m 55 17) + 13) % (14))) + 14).toNat) (fun hc17 hw17 hm17 => ?_)
  refine f_inc 0 [(1, fi (15)), (0, .ref 55)] rfl (by decide) hL15 rfl rfl (fun L16 hL16 => ?_)
  refine f_goto rfl ?_
  refine f_iln 0 rfl hL16 rfl ?_
  refine f_bipush (n := 18) rfl (by decide) ?_
  refine f_ic rfl (by decide) (by decide) (fun c_9 => absurd (show (18 : Int) ≤ (15 : Int) from c_9) (by decide)) (fun _ => ?_)
  refine f_aln 1 rfl hL16 rfl ?_
  refine m_gfr so55 rfl hw17 rfl (by decide) ?_
  refine f_iln 0 rfl hL16 rfl ?_
  refine f_aln 1 rfl hL16 rfl ?_
  refine m_gfr so55 rfl hw17 rfl (by decide) ?_
  refine f_bipush (n := 18) rfl (by decide) ?_
  refine f_aln 1 rfl hL16 rfl ?_
  refine m_gfi so55 (((m 55 17) + 13) % (14)) rfl hw17 hm17 rfl rfl ?_
  refine f_imul rfl ?_
  refine f_iln 0 rfl hL16 rfl ?_
  refine f_iadd rfl ?_
  refine m_ia sa65 (m 65 ((18 * (((m 55 17) + 13) % (14))) + 15).toNat) rfl hw17 hm17 (by omega) (by omega) (by decide) rfl ?_
  refine m_ias sa61 rfl hw17 hm17 (by omega) (by omega) (by decide) (hR 65 ((18 * (((m 55 17) + 13) % (14))) + 15).toNat) (fun hc18 hw18 hm18 => ?_)
  refine f_inc 0 [(1, fi (16)), (0, .ref 55)] rfl (by decide) hL16 rfl rfl (fun L17 hL17 => ?_)
  refine f_goto rfl ?_
  refine f_iln 0 rfl hL17 rfl ?_
  refine f_bipush (n := 18) rfl (by decide) ?_
  refine f_ic rfl (by decide) (by decide) (fun c_9 => absurd (show (18 : Int) ≤ (16 : Int) from c_9) (by decide)) (fun _ => ?_)
  refine f_aln 1 rfl hL17 rfl ?_
  refine m_gfr so55 rfl hw18 rfl (by decide) ?_
  refine f_iln 0 rfl hL17 rfl ?_
  refine f_aln 1 rfl hL17 rfl ?_
  refine m_gfr so55 rfl hw18 rfl (by decide) ?_
  refine f_bipush (n := 18) rfl (by decide) ?_
  refine f_aln 1 rfl hL17 rfl ?_
  refine m_gfi so55 (((m 55 17) + 13) % (14)) rfl hw18 hm18 rfl rfl ?_
  refine f_imul rfl ?_
  refine f_iln 0 rfl hL17 rfl ?_
  refine f_iadd rfl ?_
  refine m_ia sa65 (m 65 ((18 * (((m 55 17) + 13) % (14))) + 16).toNat) rfl hw18 hm18 (by omega) (by omega) (by decide) rfl ?_
  refine m_ias sa61 rfl hw18 hm18 (by omega) (by omega) (by decide) (hR 65 ((18 * (((m 55 17) + 13) % (14))) + 16).toNat) (fun hc19 hw19 hm19 => ?_)
  refine f_inc 0 [(1, fi (17)), (0, .ref 55)] rfl (by decide) hL17 rfl rfl (fun L18 hL18 => ?_)
  refine f_goto rfl ?_
  refine f_iln 0 rfl hL18 rfl ?_
  refine f_bipush (n := 18) rfl (by decide) ?_
  refine f_ic rfl (by decide) (by decide) (fun c_9 => absurd (show (18 : Int) ≤ (17 : Int) from c_9) (by decide)) (fun _ => ?_)
  refine f_aln 1 rfl hL18 rfl ?_
  refine m_gfr so55 rfl hw19 rfl (by decide) ?_
  refine f_iln 0 rfl hL18 rfl ?_
  refine f_aln 1 rfl hL18 rfl ?_
  refine m_gfr so55 rfl hw19 rfl (by decide) ?_
  refine f_bipush (n := 18) rfl (by decide) ?_
  refine f_aln 1 rfl hL18 rfl ?_
  refine m_gfi so55 (((m 55 17) + 13) % (14)) rfl hw19 hm19 rfl rfl ?_
  refine f_imul rfl ?_
  refine f_iln 0 rfl hL18 rfl ?_
  refine f_iadd rfl ?_
  refine m_ia sa65 (m 65 ((18 * (((m 55 17) + 13) % (14))) + 17).toNat) rfl hw19 hm19 (by omega) (by omega) (by decide) rfl ?_
  refine m_ias sa61 rfl hw19 hm19 (by omega) (by omega) (by decide) (hR 65 ((18 * (((m 55 17) + 13) % (14))) + 17).toNat) (fun hc20 hw20 hm20 => ?_)
  refine f_inc 0 [(1, fi (18)), (0, .ref 55)] rfl (by decide) hL18 rfl rfl (fun L19 hL19 => ?_)
  refine f_goto rfl ?_
  refine f_iln 0 rfl hL19 rfl ?_
  refine f_bipush (n := 18) rfl (by decide) ?_
  refine f_ic rfl (by decide) (by decide) (fun _ => ?_) (fun c_9 => absurd (show (18 : Int) ≤ (18 : Int) from (by decide)) c_9)
  refine f_aln 1 rfl hL19 rfl ?_
  refine m_gfi so55 ((m 55 16) - 1) rfl hw20 hm20 rfl rfl ?_
  have key : gi hc20 = unM m := by
    rw [hm20]
    unfold unM
    rw [← lay_eq (up (up m 55 16 ((m 55 16) - 1)) 55 17 (((m 55 17) + 13) % 14)) 65 (18 * (((m 55 17) + 13) % 14).toNat) 61 0 (by decide)]
    rw [show ((18 * (((m 55 17) + 13) % 14)) + 0).toNat = 18 * (((m 55 17) + 13) % 14).toNat + 0 by omega]
    rw [show ((18 * (((m 55 17) + 13) % 14)) + 1).toNat = 18 * (((m 55 17) + 13) % 14).toNat + 1 by omega]
    rw [show ((18 * (((m 55 17) + 13) % 14)) + 2).toNat = 18 * (((m 55 17) + 13) % 14).toNat + 2 by omega]
    rw [show ((18 * (((m 55 17) + 13) % 14)) + 3).toNat = 18 * (((m 55 17) + 13) % 14).toNat + 3 by omega]
    rw [show ((18 * (((m 55 17) + 13) % 14)) + 4).toNat = 18 * (((m 55 17) + 13) % 14).toNat + 4 by omega]
    rw [show ((18 * (((m 55 17) + 13) % 14)) + 5).toNat = 18 * (((m 55 17) + 13) % 14).toNat + 5 by omega]
    rw [show ((18 * (((m 55 17) + 13) % 14)) + 6).toNat = 18 * (((m 55 17) + 13) % 14).toNat + 6 by omega]
    rw [show ((18 * (((m 55 17) + 13) % 14)) + 7).toNat = 18 * (((m 55 17) + 13) % 14).toNat + 7 by omega]
    rw [show ((18 * (((m 55 17) + 13) % 14)) + 8).toNat = 18 * (((m 55 17) + 13) % 14).toNat + 8 by omega]
    rw [show ((18 * (((m 55 17) + 13) % 14)) + 9).toNat = 18 * (((m 55 17) + 13) % 14).toNat + 9 by omega]
    rw [show ((18 * (((m 55 17) + 13) % 14)) + 10).toNat = 18 * (((m 55 17) + 13) % 14).toNat + 10 by omega]
    rw [show ((18 * (((m 55 17) + 13) % 14)) + 11).toNat = 18 * (((m 55 17) + 13) % 14).toNat + 11 by omega]
    rw [show ((18 * (((m 55 17) + 13) % 14)) + 12).toNat = 18 * (((m 55 17) + 13) % 14).toNat + 12 by omega]
    rw [show ((18 * (((m 55 17) + 13) % 14)) + 13).toNat = 18 * (((m 55 17) + 13) % 14).toNat + 13 by omega]
    rw [show ((18 * (((m 55 17) + 13) % 14)) + 14).toNat = 18 * (((m 55 17) + 13) % 14).toNat + 14 by omega]
    rw [show ((18 * (((m 55 17) + 13) % 14)) + 15).toNat = 18 * (((m 55 17) + 13) % 14).toNat + 15 by omega]
    rw [show ((18 * (((m 55 17) + 13) % 14)) + 16).toNat = 18 * (((m 55 17) + 13) % 14).toNat + 16 by omega]
    rw [show ((18 * (((m 55 17) + 13) % 14)) + 17).toNat = 18 * (((m 55 17) + 13) % 14).toNat + 17 by omega]
    try rfl
  exact f_ret1 rfl ⟨rfl, hw20, key⟩)
theorem t195_out {m : Nat → Nat → Int} {x : Int} (rx : -2147483648 ≤ x ∧ x ≤ 2147483647) (h0 : ¬ (0 ≤ x ∧ x ≤ 1)) : h_M 195 [.ref 55, fi (x)] m (some (fi (-1))) m := h_M_of (R := ev_r195) rfl (fun hc hw hm => by
  have hL : f_L (lv_args 0 [.ref 55, fi (x)]) [(0, .ref 55), (1, fi (x))] := f_L_of rfl
  generalize lv_args 0 [.ref 55, fi (x)] = L at hL
  show x_W none (1, 0, 3, 1, 11, 1, 25, 0, 0, ev_t195) 0 L [] hc 0 0 _
  have hR := gi_R hm
  refine f_iln 1 rfl hL rfl ?_
  refine f_i2l rfl (by omega) ?_
  refine f_s [fl (0), fl (x)] rfl rfl ?_
  refine f_s [fl (1), fl (0), fl (x)] rfl rfl ?_
  refine m_k1 (t_in x 0 1 (by omega) (by decide) (by decide)) hw hm rfl rfl rfl rfl rfl (fun hc1 hw1 hm1 => ?_)
  refine f_if rfl (bI_r _) (fun c1 => ?_) (fun c1 => ?_)
  · have c1 : ¬ (bI (decide (0 ≤ x ∧ x ≤ 1)) : Int) = (0 : Int) := c1
    have c1 : 0 ≤ x ∧ x ≤ 1 := bI_t c1
    exact absurd c1 h0
  · have c1 : ¬ (¬ (bI (decide (0 ≤ x ∧ x ≤ 1)) : Int) = (0 : Int)) := c1
    have c1 : ¬ (0 ≤ x ∧ x ≤ 1) := bI_n c1
    refine f_s [fi (-1)] rfl rfl ?_
    exact f_ret1 rfl ⟨rfl, hw1, hm1⟩)
def keM (m : Nat → Nat → Int) (x : Int) : Nat → Nat → Int := lay (up m 70 (x).toNat 1) 61 0 71 (18 * (x).toNat)
set_option maxHeartbeats 1000000 in
theorem t195_ok {m : Nat → Nat → Int} {x : Int} (rx : -2147483648 ≤ x ∧ x ≤ 2147483647) (h0 : 0 ≤ x ∧ x ≤ 1) : h_M 195 [.ref 55, fi (x)] m (some (fi (m 61 17))) (keM m x) := h_M_of (R := ev_r195) rfl (fun hc hw hm => by
  have hL : f_L (lv_args 0 [.ref 55, fi (x)]) [(0, .ref 55), (1, fi (x))] := f_L_of rfl
  generalize lv_args 0 [.ref 55, fi (x)] = L at hL
  show x_W none (1, 0, 3, 1, 11, 1, 25, 0, 0, ev_t195) 0 L [] hc 0 0 _
  have hR := gi_R hm
  refine f_iln 1 rfl hL rfl ?_
  refine f_i2l rfl (by omega) ?_
  refine f_s [fl (0), fl (x)] rfl rfl ?_
  refine f_s [fl (1), fl (0), fl (x)] rfl rfl ?_
  refine m_k1 (t_in x 0 1 (by omega) (by decide) (by decide)) hw hm rfl rfl rfl rfl rfl (fun hc1 hw1 hm1 => ?_)
  refine f_if rfl (bI_r _) (fun c1 => ?_) (fun c1 => ?_)
  · have c1 : ¬ (bI (decide (0 ≤ x ∧ x ≤ 1)) : Int) = (0 : Int) := c1
    have c1 : 0 ≤ x ∧ x ≤ 1 := bI_t c1
    refine f_aln 0 rfl hL rfl ?_
    refine m_gfr so55 rfl hw1 rfl (by decide) ?_
    refine f_iln 1 rfl hL rfl ?_
    refine f_s [fi (1), fi (x), .ref 70] rfl rfl ?_
    refine m_bas sa70 rfl hw1 hm1 (by omega) (by omega) (by decide) (by omega) (fun hc2 hw2 hm2 => ?_)
    refine f_s [fi (0)] rfl rfl ?_
    refine f_istn [(2, fi (0)), (0, .ref 55), (1, fi (x))] rfl (by decide) hL rfl (fun L1 hL1 => ?_)
    refine f_iln 0 rfl hL1 rfl ?_
    refine f_bipush (n := 18) rfl (by decide) ?_
    refine f_ic rfl (by decide) (by decide) (fun c_9 => absurd (show (18 : Int) ≤ (0 : Int) from c_9) (by decide)) (fun _ => ?_)
    refine f_aln 1 rfl hL1 rfl ?_
    refine m_gfr so55 rfl hw2 rfl (by decide) ?_
    refine f_bipush (n := 18) rfl (by decide) ?_
    refine f_iln 2 rfl hL1 rfl ?_
    refine f_imul rfl ?_
    refine f_iln 0 rfl hL1 rfl ?_
    refine f_iadd rfl ?_
    refine f_aln 1 rfl hL1 rfl ?_
    refine m_gfr so55 rfl hw2 rfl (by decide) ?_
    refine f_iln 0 rfl hL1 rfl ?_
    refine m_ia sa61 (m 61 0) rfl hw2 hm2 (by omega) (by omega) (by decide) rfl ?_
    refine m_ias sa71 rfl hw2 hm2 (by omega) (by omega) (by decide) (hR 61 0) (fun hc3 hw3 hm3 => ?_)
    refine f_inc 0 [(2, fi (1)), (0, .ref 55), (1, fi (x))] rfl (by decide) hL1 rfl rfl (fun L2 hL2 => ?_)
    refine f_goto rfl ?_
    refine f_iln 0 rfl hL2 rfl ?_
    refine f_bipush (n := 18) rfl (by decide) ?_
    refine f_ic rfl (by decide) (by decide) (fun c_9 => absurd (show (18 : Int) ≤ (1 : Int) from c_9) (by decide)) (fun _ => ?_)
    refine f_aln 1 rfl hL2 rfl ?_
    refine m_gfr so55 rfl hw3 rfl (by decide) ?_
    refine f_bipush (n := 18) rfl (by decide) ?_
    refine f_iln 2 rfl hL2 rfl ?_
    refine f_imul rfl ?_
    refine f_iln 0 rfl hL2 rfl ?_
    refine f_iadd rfl ?_
    refine f_aln 1 rfl hL2 rfl ?_
    refine m_gfr so55 rfl hw3 rfl (by decide) ?_
    refine f_iln 0 rfl hL2 rfl ?_
    refine m_ia sa61 (m 61 1) rfl hw3 hm3 (by omega) (by omega) (by decide) rfl ?_
    refine m_ias sa71 rfl hw3 hm3 (by omega) (by omega) (by decide) (hR 61 1) (fun hc4 hw4 hm4 => ?_)
    refine f_inc 0 [(2, fi (2)), (0, .ref 55), (1, fi (x))] rfl (by decide) hL2 rfl rfl (fun L3 hL3 => ?_)
    refine f_goto rfl ?_
    refine f_iln 0 rfl hL3 rfl ?_
    refine f_bipush (n := 18) rfl (by decide) ?_
    refine f_ic rfl (by decide) (by decide) (fun c_9 => absurd (show (18 : Int) ≤ (2 : Int) from c_9) (by decide)) (fun _ => ?_)
    refine f_aln 1 rfl hL3 rfl ?_
    refine m_gfr so55 rfl hw4 rfl (by decide) ?_
    refine f_bipush (n := 18) rfl (by decide) ?_
    refine f_iln 2 rfl hL3 rfl ?_
    refine f_imul rfl ?_
    refine f_iln 0 rfl hL3 rfl ?_
    refine f_iadd rfl ?_
    refine f_aln 1 rfl hL3 rfl ?_
    refine m_gfr so55 rfl hw4 rfl (by decide) ?_
    refine f_iln 0 rfl hL3 rfl ?_
    refine m_ia sa61 (m 61 2) rfl hw4 hm4 (by omega) (by omega) (by decide) rfl ?_
    refine m_ias sa71 rfl hw4 hm4 (by omega) (by omega) (by decide) (hR 61 2) (fun hc5 hw5 hm5 => ?_)
    refine f_inc 0 [(2, fi (3)), (0, .ref 55), (1, fi (x))] rfl (by decide) hL3 rfl rfl (fun L4 hL4 => ?_)
    refine f_goto rfl ?_
    refine f_iln 0 rfl hL4 rfl ?_
    refine f_bipush (n := 18) rfl (by decide) ?_
    refine f_ic rfl (by decide) (by decide) (fun c_9 => absurd (show (18 : Int) ≤ (3 : Int) from c_9) (by decide)) (fun _ => ?_)
    refine f_aln 1 rfl hL4 rfl ?_
    refine m_gfr so55 rfl hw5 rfl (by decide) ?_
    refine f_bipush (n := 18) rfl (by decide) ?_
    refine f_iln 2 rfl hL4 rfl ?_
    refine f_imul rfl ?_
    refine f_iln 0 rfl hL4 rfl ?_
    refine f_iadd rfl ?_
    refine f_aln 1 rfl hL4 rfl ?_
    refine m_gfr so55 rfl hw5 rfl (by decide) ?_
    refine f_iln 0 rfl hL4 rfl ?_
    refine m_ia sa61 (m 61 3) rfl hw5 hm5 (by omega) (by omega) (by decide) rfl ?_
    refine m_ias sa71 rfl hw5 hm5 (by omega) (by omega) (by decide) (hR 61 3) (fun hc6 hw6 hm6 => ?_)
    refine f_inc 0 [(2, fi (4)), (0, .ref 55), (1, fi (x))] rfl (by decide) hL4 rfl rfl (fun L5 hL5 => ?_)
    refine f_goto rfl ?_
    refine f_iln 0 rfl hL5 rfl ?_
    refine f_bipush (n := 18) rfl (by decide) ?_
    refine f_ic rfl (by decide) (by decide) (fun c_9 => absurd (show (18 : Int) ≤ (4 : Int) from c_9) (by decide)) (fun _ => ?_)
    refine f_aln 1 rfl hL5 rfl ?_
    refine m_gfr so55 rfl hw6 rfl (by decide) ?_
    refine f_bipush (n := 18) rfl (by decide) ?_
    refine f_iln 2 rfl hL5 rfl ?_
    refine f_imul rfl ?_
    refine f_iln 0 rfl hL5 rfl ?_
    refine f_iadd rfl ?_
    refine f_aln 1 rfl hL5 rfl ?_
    refine m_gfr so55 rfl hw6 rfl (by decide) ?_
    refine f_iln 0 rfl hL5 rfl ?_
    refine m_ia sa61 (m 61 4) rfl hw6 hm6 (by omega) (by omega) (by decide) rfl ?_
    refine m_ias sa71 rfl hw6 hm6 (by omega) (by omega) (by decide) (hR 61 4) (fun hc7 hw7 hm7 => ?_)
    refine f_inc 0 [(2, fi (5)), (0, .ref 55), (1, fi (x))] rfl (by decide) hL5 rfl rfl (fun L6 hL6 => ?_)
    refine f_goto rfl ?_
    refine f_iln 0 rfl hL6 rfl ?_
    refine f_bipush (n := 18) rfl (by decide) ?_
    refine f_ic rfl (by decide) (by decide) (fun c_9 => absurd (show (18 : Int) ≤ (5 : Int) from c_9) (by decide)) (fun _ => ?_)
    refine f_aln 1 rfl hL6 rfl ?_
    refine m_gfr so55 rfl hw7 rfl (by decide) ?_
    refine f_bipush (n := 18) rfl (by decide) ?_
    refine f_iln 2 rfl hL6 rfl ?_
    refine f_imul rfl ?_
    refine f_iln 0 rfl hL6 rfl ?_
    refine f_iadd rfl ?_
    refine f_aln 1 rfl hL6 rfl ?_
    refine m_gfr so55 rfl hw7 rfl (by decide) ?_
    refine f_iln 0 rfl hL6 rfl ?_
    refine m_ia sa61 (m 61 5) rfl hw7 hm7 (by omega) (by omega) (by decide) rfl ?_
    refine m_ias sa71 rfl hw7 hm7 (by omega) (by omega) (by decide) (hR 61 5) (fun hc8 hw8 hm8 => ?_)
    refine f_inc 0 [(2, fi (6)), (0, .ref 55), (1, fi (x))] rfl (by decide) hL6 rfl rfl (fun L7 hL7 => ?_)
    refine f_goto rfl ?_
    refine f_iln 0 rfl hL7 rfl ?_
    refine f_bipush (n := 18) rfl (by decide) ?_
    refine f_ic rfl (by decide) (by decide) (fun c_9 => absurd (show (18 : Int) ≤ (6 : Int) from c_9) (by decide)) (fun _ => ?_)
    refine f_aln 1 rfl hL7 rfl ?_
    refine m_gfr so55 rfl hw8 rfl (by decide) ?_
    refine f_bipush (n := 18) rfl (by decide) ?_
    refine f_iln 2 rfl hL7 rfl ?_
    refine f_imul rfl ?_
    refine f_iln 0 rfl hL7 rfl ?_
    refine f_iadd rfl ?_
    refine f_aln 1 rfl hL7 rfl ?_
    refine m_gfr so55 rfl hw8 rfl (by decide) ?_
    refine f_iln 0 rfl hL7 rfl ?_
    refine m_ia sa61 (m 61 6) rfl hw8 hm8 (by omega) (by omega) (by decide) rfl ?_
    refine m_ias sa71 rfl hw8 hm8 (by omega) (by omega) (by decide) (hR 61 6) (fun hc9 hw9 hm9 => ?_)
    refine f_inc 0 [(2, fi (7)), (0, .ref 55), (1, fi (x))] rfl (by decide) hL7 rfl rfl (fun L8 hL8 => ?_)
    refine f_goto rfl ?_
    refine f_iln 0 rfl hL8 rfl ?_
    refine f_bipush (n := 18) rfl (by decide) ?_
    refine f_ic rfl (by decide) (by decide) (fun c_9 => absurd (show (18 : Int) ≤ (7 : Int) from c_9) (by decide)) (fun _ => ?_)
    refine f_aln 1 rfl hL8 rfl ?_
    refine m_gfr so55 rfl hw9 rfl (by decide) ?_
    refine f_bipush (n := 18) rfl (by decide) ?_
    refine f_iln 2 rfl hL8 rfl ?_
    refine f_imul rfl ?_
    refine f_iln 0 rfl hL8 rfl ?_
    refine f_iadd rfl ?_
    refine f_aln 1 rfl hL8 rfl ?_
    refine m_gfr so55 rfl hw9 rfl (by decide) ?_
    refine f_iln 0 rfl hL8 rfl ?_
    refine m_ia sa61 (m 61 7) rfl hw9 hm9 (by omega) (by omega) (by decide) rfl ?_
    refine m_ias sa71 rfl hw9 hm9 (by omega) (by omega) (by decide) (hR 61 7) (fun hc10 hw10 hm10 => ?_)
    refine f_inc 0 [(2, fi (8)), (0, .ref 55), (1, fi (x))] rfl (by decide) hL8 rfl rfl (fun L9 hL9 => ?_)
    refine f_goto rfl ?_
    refine f_iln 0 rfl hL9 rfl ?_
    refine f_bipush (n := 18) rfl (by decide) ?_
    refine f_ic rfl (by decide) (by decide) (fun c_9 => absurd (show (18 : Int) ≤ (8 : Int) from c_9) (by decide)) (fun _ => ?_)
    refine f_aln 1 rfl hL9 rfl ?_
    refine m_gfr so55 rfl hw10 rfl (by decide) ?_
    refine f_bipush (n := 18) rfl (by decide) ?_
    refine f_iln 2 rfl hL9 rfl ?_
    refine f_imul rfl ?_
    refine f_iln 0 rfl hL9 rfl ?_
    refine f_iadd rfl ?_
    refine f_aln 1 rfl hL9 rfl ?_
    refine m_gfr so55 rfl hw10 rfl (by decide) ?_
    refine f_iln 0 rfl hL9 rfl ?_
    refine m_ia sa61 (m 61 8) rfl hw10 hm10 (by omega) (by omega) (by decide) rfl ?_
    refine m_ias sa71 rfl hw10 hm10 (by omega) (by omega) (by decide) (hR 61 8) (fun hc11 hw11 hm11 => ?_)
    refine f_inc 0 [(2, fi (9)), (0, .ref 55), (1, fi (x))] rfl (by decide) hL9 rfl rfl (fun L10 hL10 => ?_)
    refine f_goto rfl ?_
    refine f_iln 0 rfl hL10 rfl ?_
    refine f_bipush (n := 18) rfl (by decide) ?_
    refine f_ic rfl (by decide) (by decide) (fun c_9 => absurd (show (18 : Int) ≤ (9 : Int) from c_9) (by decide)) (fun _ => ?_)
    refine f_aln 1 rfl hL10 rfl ?_
    refine m_gfr so55 rfl hw11 rfl (by decide) ?_
    refine f_bipush (n := 18) rfl (by decide) ?_
    refine f_iln 2 rfl hL10 rfl ?_
    refine f_imul rfl ?_
    refine f_iln 0 rfl hL10 rfl ?_
    refine f_iadd rfl ?_
    refine f_aln 1 rfl hL10 rfl ?_
    refine m_gfr so55 rfl hw11 rfl (by decide) ?_
    refine f_iln 0 rfl hL10 rfl ?_
    refine m_ia sa61 (m 61 9) rfl hw11 hm11 (by omega) (by omega) (by decide) rfl ?_
    refine m_ias sa71 rfl hw11 hm11 (by omega) (by omega) (by decide) (hR 61 9) (fun hc12 hw12 hm12 => ?_)
    refine f_inc 0 [(2, fi (10)), (0, .ref 55), (1, fi (x))] rfl (by decide) hL10 rfl rfl (fun L11 hL11 => ?_)
    refine f_goto rfl ?_
    refine f_iln 0 rfl hL11 rfl ?_
    refine f_bipush (n := 18) rfl (by decide) ?_
    refine f_ic rfl (by decide) (by decide) (fun c_9 => absurd (show (18 : Int) ≤ (10 : Int) from c_9) (by decide)) (fun _ => ?_)
    refine f_aln 1 rfl hL11 rfl ?_
    refine m_gfr so55 rfl hw12 rfl (by decide) ?_
    refine f_bipush (n := 18) rfl (by decide) ?_
    refine f_iln 2 rfl hL11 rfl ?_
    refine f_imul rfl ?_
    refine f_iln 0 rfl hL11 rfl ?_
    refine f_iadd rfl ?_
    refine f_aln 1 rfl hL11 rfl ?_
    refine m_gfr so55 rfl hw12 rfl (by decide) ?_
    refine f_iln 0 rfl hL11 rfl ?_
    refine m_ia sa61 (m 61 10) rfl hw12 hm12 (by omega) (by omega) (by decide) rfl ?_
    refine m_ias sa71 rfl hw12 hm12 (by omega) (by omega) (by decide) (hR 61 10) (fun hc13 hw13 hm13 => ?_)
    refine f_inc 0 [(2, fi (11)), (0, .ref 55), (1, fi (x))] rfl (by decide) hL11 rfl rfl (fun L12 hL12 => ?_)
    refine f_goto rfl ?_
    refine f_iln 0 rfl hL12 rfl ?_
    refine f_bipush (n := 18) rfl (by decide) ?_
    refine f_ic rfl (by decide) (by decide) (fun c_9 => absurd (show (18 : Int) ≤ (11 : Int) from c_9) (by decide)) (fun _ => ?_)
    refine f_aln 1 rfl hL12 rfl ?_
    refine m_gfr so55 rfl hw13 rfl (by decide) ?_
    refine f_bipush (n := 18) rfl (by decide) ?_
    refine f_iln 2 rfl hL12 rfl ?_
    refine f_imul rfl ?_
    refine f_iln 0 rfl hL12 rfl ?_
    refine f_iadd rfl ?_
    refine f_aln 1 rfl hL12 rfl ?_
    refine m_gfr so55 rfl hw13 rfl (by decide) ?_
    refine f_iln 0 rfl hL12 rfl ?_
    refine m_ia sa61 (m 61 11) rfl hw13 hm13 (by omega) (by omega) (by decide) rfl ?_
    refine m_ias sa71 rfl hw13 hm13 (by omega) (by omega) (by decide) (hR 61 11) (fun hc14 hw14 hm14 => ?_)
    refine f_inc 0 [(2, fi (12)), (0, .ref 55), (1, fi (x))] rfl (by decide) hL12 rfl rfl (fun L13 hL13 => ?_)
    refine f_goto rfl ?_
    refine f_iln 0 rfl hL13 rfl ?_
    refine f_bipush (n := 18) rfl (by decide) ?_
    refine f_ic rfl (by decide) (by decide) (fun c_9 => absurd (show (18 : Int) ≤ (12 : Int) from c_9) (by decide)) (fun _ => ?_)
    refine f_aln 1 rfl hL13 rfl ?_
    refine m_gfr so55 rfl hw14 rfl (by decide) ?_
    refine f_bipush (n := 18) rfl (by decide) ?_
    refine f_iln 2 rfl hL13 rfl ?_
    refine f_imul rfl ?_
    refine f_iln 0 rfl hL13 rfl ?_
    refine f_iadd rfl ?_
    refine f_aln 1 rfl hL13 rfl ?_
    refine m_gfr so55 rfl hw14 rfl (by decide) ?_
    refine f_iln 0 rfl hL13 rfl ?_
    refine m_ia sa61 (m 61 12) rfl hw14 hm14 (by omega) (by omega) (by decide) rfl ?_
    refine m_ias sa71 rfl hw14 hm14 (by omega) (by omega) (by decide) (hR 61 12) (fun hc15 hw15 hm15 => ?_)
    refine f_inc 0 [(2, fi (13)), (0, .ref 55), (1, fi (x))] rfl (by decide) hL13 rfl rfl (fun L14 hL14 => ?_)
    refine f_goto rfl ?_
    refine f_iln 0 rfl hL14 rfl ?_
    refine f_bipush (n := 18) rfl (by decide) ?_
    refine f_ic rfl (by decide) (by decide) (fun c_9 => absurd (show (18 : Int) ≤ (13 : Int) from c_9) (by decide)) (fun _ => ?_)
    refine f_aln 1 rfl hL14 rfl ?_
    refine m_gfr so55 rfl hw15 rfl (by decide) ?_
    refine f_bipush (n := 18) rfl (by decide) ?_
    refine f_iln 2 rfl hL14 rfl ?_
    refine f_imul rfl ?_
    refine f_iln 0 rfl hL14 rfl ?_
    refine f_iadd rfl ?_
    refine f_aln 1 rfl hL14 rfl ?_
    refine m_gfr so55 rfl hw15 rfl (by decide) ?_
    refine f_iln 0 rfl hL14 rfl ?_
    refine m_ia sa61 (m 61 13) rfl hw15 hm15 (by omega) (by omega) (by decide) rfl ?_
    refine m_ias sa71 rfl hw15 hm15 (by omega) (by omega) (by decide) (hR 61 13) (fun hc16 hw16 hm16 => ?_)
    refine f_inc 0 [(2, fi (14)), (0, .ref 55), (1, fi (x))] rfl (by decide) hL14 rfl rfl (fun L15 hL15 => ?_)
    refine f_goto rfl ?_
    refine f_iln 0 rfl hL15 rfl ?_
    refine f_bipush (n := 18) rfl (by decide) ?_
    refine f_ic rfl (by decide) (by decide) (fun c_9 => absurd (show (18 : Int) ≤ (14 : Int) from c_9) (by decide)) (fun _ => ?_)
    refine f_aln 1 rfl hL15 rfl ?_
    refine m_gfr so55 rfl hw16 rfl (by decide) ?_
    refine f_bipush (n := 18) rfl (by decide) ?_
    refine f_iln 2 rfl hL15 rfl ?_
    refine f_imul rfl ?_
    refine f_iln 0 rfl hL15 rfl ?_
    refine f_iadd rfl ?_
    refine f_aln 1 rfl hL15 rfl ?_
    refine m_gfr so55 rfl hw16 rfl (by decide) ?_
    refine f_iln 0 rfl hL15 rfl ?_
    refine m_ia sa61 (m 61 14) rfl hw16 hm16 (by omega) (by omega) (by decide) rfl ?_
    refine m_ias sa71 rfl hw16 hm16 (by omega) (by omega) (by decide) (hR 61 14) (fun hc17 hw17 hm17 => ?_)
    refine f_inc 0 [(2, fi (15)), (0, .ref 55), (1, fi (x))] rfl (by decide) hL15 rfl rfl (fun L16 hL16 => ?_)
    refine f_goto rfl ?_
    refine f_iln 0 rfl hL16 rfl ?_
    refine f_bipush (n := 18) rfl (by decide) ?_
    refine f_ic rfl (by decide) (by decide) (fun c_9 => absurd (show (18 : Int) ≤ (15 : Int) from c_9) (by decide)) (fun _ => ?_)
    refine f_aln 1 rfl hL16 rfl ?_
    refine m_gfr so55 rfl hw17 rfl (by decide) ?_
    refine f_bipush (n := 18) rfl (by decide) ?_
    refine f_iln 2 rfl hL16 rfl ?_
    refine f_imul rfl ?_
    refine f_iln 0 rfl hL16 rfl ?_
    refine f_iadd rfl ?_
    refine f_aln 1 rfl hL16 rfl ?_
    refine m_gfr so55 rfl hw17 rfl (by decide) ?_
    refine f_iln 0 rfl hL16 rfl ?_
    refine m_ia sa61 (m 61 15) rfl hw17 hm17 (by omega) (by omega) (by decide) rfl ?_
    refine m_ias sa71 rfl hw17 hm17 (by omega) (by omega) (by decide) (hR 61 15) (fun hc18 hw18 hm18 => ?_)
    refine f_inc 0 [(2, fi (16)), (0, .ref 55), (1, fi (x))] rfl (by decide) hL16 rfl rfl (fun L17 hL17 => ?_)
    refine f_goto rfl ?_
    refine f_iln 0 rfl hL17 rfl ?_
    refine f_bipush (n := 18) rfl (by decide) ?_
    refine f_ic rfl (by decide) (by decide) (fun c_9 => absurd (show (18 : Int) ≤ (16 : Int) from c_9) (by decide)) (fun _ => ?_)
    refine f_aln 1 rfl hL17 rfl ?_
    refine m_gfr so55 rfl hw18 rfl (by decide) ?_
    refine f_bipush (n := 18) rfl (by decide) ?_
    refine f_iln 2 rfl hL17 rfl ?_
    refine f_imul rfl ?_
    refine f_iln 0 rfl hL17 rfl ?_
    refine f_iadd rfl ?_
    refine f_aln 1 rfl hL17 rfl ?_
    refine m_gfr so55 rfl hw18 rfl (by decide) ?_
    refine f_iln 0 rfl hL17 rfl ?_
    refine m_ia sa61 (m 61 16) rfl hw18 hm18 (by omega) (by omega) (by decide) rfl ?_
    refine m_ias sa71 rfl hw18 hm18 (by omega) (by omega) (by decide) (hR 61 16) (fun hc19 hw19 hm19 => ?_)
    refine f_inc 0 [(2, fi (17)), (0, .ref 55), (1, fi (x))] rfl (by decide) hL17 rfl rfl (fun L18 hL18 => ?_)
    refine f_goto rfl ?_
    refine f_iln 0 rfl hL18 rfl ?_
    refine f_bipush (n := 18) rfl (by decide) ?_
    refine f_ic rfl (by decide) (by decide) (fun c_9 => absurd (show (18 : Int) ≤ (17 : Int) from c_9) (by decide)) (fun _ => ?_)
    refine f_aln 1 rfl hL18 rfl ?_
    refine m_gfr so55 rfl hw19 rfl (by decide) ?_
    refine f_bipush (n := 18) rfl (by decide) ?_
    refine f_iln 2 rfl hL18 rfl ?_
    refine f_imul rfl ?_
    refine f_iln 0 rfl hL18 rfl ?_
    refine f_iadd rfl ?_
    refine f_aln 1 rfl hL18 rfl ?_
    refine m_gfr so55 rfl hw19 rfl (by decide) ?_
    refine f_iln 0 rfl hL18 rfl ?_
    refine m_ia sa61 (m 61 17) rfl hw19 hm19 (by omega) (by omega) (by decide) rfl ?_
    refine m_ias sa71 rfl hw19 hm19 (by omega) (by omega) (by decide) (hR 61 17) (fun hc20 hw20 hm20 => ?_)
    refine f_inc 0 [(2, fi (18)), (0, .ref 55), (1, fi (x))] rfl (by decide) hL18 rfl rfl (fun L19 hL19 => ?_)
    refine f_goto rfl ?_
    refine f_iln 0 rfl hL19 rfl ?_
    refine f_bipush (n := 18) rfl (by decide) ?_
    refine f_ic rfl (by decide) (by decide) (fun _ => ?_) (fun c_9 => absurd (show (18 : Int) ≤ (18 : Int) from (by decide)) c_9)
    refine f_aln 1 rfl hL19 rfl ?_
    refine m_gfr so55 rfl hw20 rfl (by decide) ?_
    refine f_bipush (n := 17) rfl (by decide) ?_
    refine m_ia sa61 (m 61 17) rfl hw20 hm20 (by omega) (by omega) (by decide) rfl ?_
    have key : gi hc20 = keM m x := by
      rw [hm20]
      unfold keM
      rw [← lay_eq (up m 70 (x).toNat 1) 61 0 71 (18 * (x).toNat) (by decide)]
      rw [show ((18 * (x)) + 0).toNat = 18 * (x).toNat + 0 by omega]
      rw [show ((18 * (x)) + 1).toNat = 18 * (x).toNat + 1 by omega]
      rw [show ((18 * (x)) + 2).toNat = 18 * (x).toNat + 2 by omega]
      rw [show ((18 * (x)) + 3).toNat = 18 * (x).toNat + 3 by omega]
      rw [show ((18 * (x)) + 4).toNat = 18 * (x).toNat + 4 by omega]
      rw [show ((18 * (x)) + 5).toNat = 18 * (x).toNat + 5 by omega]
      rw [show ((18 * (x)) + 6).toNat = 18 * (x).toNat + 6 by omega]
      rw [show ((18 * (x)) + 7).toNat = 18 * (x).toNat + 7 by omega]
      rw [show ((18 * (x)) + 8).toNat = 18 * (x).toNat + 8 by omega]
      rw [show ((18 * (x)) + 9).toNat = 18 * (x).toNat + 9 by omega]
      rw [show ((18 * (x)) + 10).toNat = 18 * (x).toNat + 10 by omega]
      rw [show ((18 * (x)) + 11).toNat = 18 * (x).toNat + 11 by omega]
      rw [show ((18 * (x)) + 12).toNat = 18 * (x).toNat + 12 by omega]
      rw [show ((18 * (x)) + 13).toNat = 18 * (x).toNat + 13 by omega]
      rw [show ((18 * (x)) + 14).toNat = 18 * (x).toNat + 14 by omega]
      rw [show ((18 * (x)) + 15).toNat = 18 * (x).toNat + 15 by omega]
      rw [show ((18 * (x)) + 16).toNat = 18 * (x).toNat + 16 by omega]
      rw [show ((18 * (x)) + 17).toNat = 18 * (x).toNat + 17 by omega]
      try rfl
    exact f_ret1 rfl ⟨rfl, hw20, key⟩
  · have c1 : ¬ (¬ (bI (decide (0 ≤ x ∧ x ≤ 1)) : Int) = (0 : Int)) := c1
    have c1 : ¬ (0 ≤ x ∧ x ≤ 1) := bI_n c1
    exact absurd h0 c1)
theorem t198_out {m : Nat → Nat → Int} {x : Int} (rx : -2147483648 ≤ x ∧ x ≤ 2147483647) (h0 : ¬ (0 ≤ x ∧ x ≤ 1)) : h_M 198 [.ref 55, fi (x)] m (some (fi (-1))) m := h_M_of (R := ev_r198) rfl (fun hc hw hm => by
  have hL : f_L (lv_args 0 [.ref 55, fi (x)]) [(0, .ref 55), (1, fi (x))] := f_L_of rfl
  generalize lv_args 0 [.ref 55, fi (x)] = L at hL
  show x_W none (1, 0, 3, 1, 11, 1, 25, 0, 0, ev_t198) 0 L [] hc 0 0 _
  have hR := gi_R hm
  refine f_iln 1 rfl hL rfl ?_
  refine f_i2l rfl (by omega) ?_
  refine f_s [fl (0), fl (x)] rfl rfl ?_
  refine f_s [fl (1), fl (0), fl (x)] rfl rfl ?_
  refine m_k1 (t_in x 0 1 (by omega) (by decide) (by decide)) hw hm rfl rfl rfl rfl rfl (fun hc1 hw1 hm1 => ?_)
  refine f_if rfl (bI_r _) (fun c1 => ?_) (fun c1 => ?_)
  · have c1 : ¬ (bI (decide (0 ≤ x ∧ x ≤ 1)) : Int) = (0 : Int) := c1
    have c1 : 0 ≤ x ∧ x ≤ 1 := bI_t c1
    exact absurd c1 h0
  · have c1 : ¬ (¬ (bI (decide (0 ≤ x ∧ x ≤ 1)) : Int) = (0 : Int)) := c1
    have c1 : ¬ (0 ≤ x ∧ x ≤ 1) := bI_n c1
    refine f_s [fi (-1)] rfl rfl ?_
    exact f_ret1 rfl ⟨rfl, hw1, hm1⟩)
theorem t198_none {m : Nat → Nat → Int} {x : Int} (rx : -2147483648 ≤ x ∧ x ≤ 2147483647) (h0 : 0 ≤ x ∧ x ≤ 1) {kv : Int} (hkv : m 70 (x).toNat = kv) (rkv : -2147483648 ≤ kv ∧ kv ≤ 2147483647) (h1 : kv = 0) : h_M 198 [.ref 55, fi (x)] m (some (fi (-3))) m := h_M_of (R := ev_r198) rfl (fun hc hw hm => by
  have hL : f_L (lv_args 0 [.ref 55, fi (x)]) [(0, .ref 55), (1, fi (x))] := f_L_of rfl
  generalize lv_args 0 [.ref 55, fi (x)] = L at hL
  show x_W none (1, 0, 3, 1, 11, 1, 25, 0, 0, ev_t198) 0 L [] hc 0 0 _
  have hR := gi_R hm
  refine f_iln 1 rfl hL rfl ?_
  refine f_i2l rfl (by omega) ?_
  refine f_s [fl (0), fl (x)] rfl rfl ?_
  refine f_s [fl (1), fl (0), fl (x)] rfl rfl ?_
  refine m_k1 (t_in x 0 1 (by omega) (by decide) (by decide)) hw hm rfl rfl rfl rfl rfl (fun hc1 hw1 hm1 => ?_)
  refine f_if rfl (bI_r _) (fun c1 => ?_) (fun c1 => ?_)
  · have c1 : ¬ (bI (decide (0 ≤ x ∧ x ≤ 1)) : Int) = (0 : Int) := c1
    have c1 : 0 ≤ x ∧ x ≤ 1 := bI_t c1
    refine f_aln 0 rfl hL rfl ?_
    refine m_gfr so55 rfl hw1 rfl (by decide) ?_
    refine f_iln 1 rfl hL rfl ?_
    refine m_ba sa70 (kv) rfl hw1 hm1 (by omega) (by omega) (by decide) hkv ?_
    refine f_if rfl (by omega) (fun c_9 => absurd (show ¬ (kv : Int) = (0 : Int) from c_9) (by omega)) (fun _ => ?_)
    refine f_bipush (n := -3) rfl (by decide) ?_
    exact f_ret1 rfl ⟨rfl, hw1, hm1⟩
  · have c1 : ¬ (¬ (bI (decide (0 ≤ x ∧ x ≤ 1)) : Int) = (0 : Int)) := c1
    have c1 : ¬ (0 ≤ x ∧ x ≤ 1) := bI_n c1
    exact absurd h0 c1)
def agM (m : Nat → Nat → Int) (x : Int) : Nat → Nat → Int := up (lay m 71 (18 * (x).toNat) 61 0) 55 16 0
set_option maxHeartbeats 1000000 in
theorem t198_ok {m : Nat → Nat → Int} {x : Int} (rx : -2147483648 ≤ x ∧ x ≤ 2147483647) (h0 : 0 ≤ x ∧ x ≤ 1) {kv : Int} (hkv : m 70 (x).toNat = kv) (rkv : -2147483648 ≤ kv ∧ kv ≤ 2147483647) (h1 : ¬ kv = 0) : h_M 198 [.ref 55, fi (x)] m (some (fi (m 71 (18 * (x).toNat + 17)))) (agM m x) := h_M_of (R := ev_r198) rfl (fun hc hw hm => by
  have hL : f_L (lv_args 0 [.ref 55, fi (x)]) [(0, .ref 55), (1, fi (x))] := f_L_of rfl
  generalize lv_args 0 [.ref 55, fi (x)] = L at hL
  show x_W none (1, 0, 3, 1, 11, 1, 25, 0, 0, ev_t198) 0 L [] hc 0 0 _
  have hR := gi_R hm
  refine f_iln 1 rfl hL rfl ?_
  refine f_i2l rfl (by omega) ?_
  refine f_s [fl (0), fl (x)] rfl rfl ?_
  refine f_s [fl (1), fl (0), fl (x)] rfl rfl ?_
  refine m_k1 (t_in x 0 1 (by omega) (by decide) (by decide)) hw hm rfl rfl rfl rfl rfl (fun hc1 hw1 hm1 => ?_)
  refine f_if rfl (bI_r _) (fun c1 => ?_) (fun c1 => ?_)
  · have c1 : ¬ (bI (decide (0 ≤ x ∧ x ≤ 1)) : Int) = (0 : Int) := c1
    have c1 : 0 ≤ x ∧ x ≤ 1 := bI_t c1
    refine f_aln 0 rfl hL rfl ?_
    refine m_gfr so55 rfl hw1 rfl (by decide) ?_
    refine f_iln 1 rfl hL rfl ?_
    refine m_ba sa70 (kv) rfl hw1 hm1 (by omega) (by omega) (by decide) hkv ?_
    refine f_if rfl (by omega) (fun _ => ?_) (fun c_9 => absurd (show ¬ (kv : Int) = (0 : Int) from (by omega)) c_9)
    refine f_s [fi (0)] rfl rfl ?_
    refine f_istn [(2, fi (0)), (0, .ref 55), (1, fi (x))] rfl (by decide) hL rfl (fun L1 hL1 => ?_)
    refine f_iln 0 rfl hL1 rfl ?_
    refine f_bipush (n := 18) rfl (by decide) ?_
    refine f_ic rfl (by decide) (by decide) (fun c_9 => absurd (show (18 : Int) ≤ (0 : Int) from c_9) (by decide)) (fun _ => ?_)
    refine f_aln 1 rfl hL1 rfl ?_
    refine m_gfr so55 rfl hw1 rfl (by decide) ?_
    refine f_iln 0 rfl hL1 rfl ?_
    refine f_aln 1 rfl hL1 rfl ?_
    refine m_gfr so55 rfl hw1 rfl (by decide) ?_
    refine f_bipush (n := 18) rfl (by decide) ?_
    refine f_iln 2 rfl hL1 rfl ?_
    refine f_imul rfl ?_
    refine f_iln 0 rfl hL1 rfl ?_
    refine f_iadd rfl ?_
    refine m_ia sa71 (m 71 ((18 * x) + 0).toNat) rfl hw1 hm1 (by omega) (by omega) (by decide) rfl ?_
    refine m_ias sa61 rfl hw1 hm1 (by omega) (by omega) (by decide) (hR 71 ((18 * x) + 0).toNat) (fun hc2 hw2 hm2 => ?_)
    refine f_inc 0 [(2, fi (1)), (0, .ref 55), (1, fi (x))] rfl (by decide) hL1 rfl rfl (fun L2 hL2 => ?_)
    refine f_goto rfl ?_
    refine f_iln 0 rfl hL2 rfl ?_
    refine f_bipush (n := 18) rfl (by decide) ?_
    refine f_ic rfl (by decide) (by decide) (fun c_9 => absurd (show (18 : Int) ≤ (1 : Int) from c_9) (by decide)) (fun _ => ?_)
    refine f_aln 1 rfl hL2 rfl ?_
    refine m_gfr so55 rfl hw2 rfl (by decide) ?_
    refine f_iln 0 rfl hL2 rfl ?_
    refine f_aln 1 rfl hL2 rfl ?_
    refine m_gfr so55 rfl hw2 rfl (by decide) ?_
    refine f_bipush (n := 18) rfl (by decide) ?_
    refine f_iln 2 rfl hL2 rfl ?_
    refine f_imul rfl ?_
    refine f_iln 0 rfl hL2 rfl ?_
    refine f_iadd rfl ?_
    refine m_ia sa71 (m 71 ((18 * x) + 1).toNat) rfl hw2 hm2 (by omega) (by omega) (by decide) rfl ?_
    refine m_ias sa61 rfl hw2 hm2 (by omega) (by omega) (by decide) (hR 71 ((18 * x) + 1).toNat) (fun hc3 hw3 hm3 => ?_)
    refine f_inc 0 [(2, fi (2)), (0, .ref 55), (1, fi (x))] rfl (by decide) hL2 rfl rfl (fun L3 hL3 => ?_)
    refine f_goto rfl ?_
    refine f_iln 0 rfl hL3 rfl ?_
    refine f_bipush (n := 18) rfl (by decide) ?_
    refine f_ic rfl (by decide) (by decide) (fun c_9 => absurd (show (18 : Int) ≤ (2 : Int) from c_9) (by decide)) (fun _ => ?_)
    refine f_aln 1 rfl hL3 rfl ?_
    refine m_gfr so55 rfl hw3 rfl (by decide) ?_
    refine f_iln 0 rfl hL3 rfl ?_
    refine f_aln 1 rfl hL3 rfl ?_
    refine m_gfr so55 rfl hw3 rfl (by decide) ?_
    refine f_bipush (n := 18) rfl (by decide) ?_
    refine f_iln 2 rfl hL3 rfl ?_
    refine f_imul rfl ?_
    refine f_iln 0 rfl hL3 rfl ?_
    refine f_iadd rfl ?_
    refine m_ia sa71 (m 71 ((18 * x) + 2).toNat) rfl hw3 hm3 (by omega) (by omega) (by decide) rfl ?_
    refine m_ias sa61 rfl hw3 hm3 (by omega) (by omega) (by decide) (hR 71 ((18 * x) + 2).toNat) (fun hc4 hw4 hm4 => ?_)
    refine f_inc 0 [(2, fi (3)), (0, .ref 55), (1, fi (x))] rfl (by decide) hL3 rfl rfl (fun L4 hL4 => ?_)
    refine f_goto rfl ?_
    refine f_iln 0 rfl hL4 rfl ?_
    refine f_bipush (n := 18) rfl (by decide) ?_
    refine f_ic rfl (by decide) (by decide) (fun c_9 => absurd (show (18 : Int) ≤ (3 : Int) from c_9) (by decide)) (fun _ => ?_)
    refine f_aln 1 rfl hL4 rfl ?_
    refine m_gfr so55 rfl hw4 rfl (by decide) ?_
    refine f_iln 0 rfl hL4 rfl ?_
    refine f_aln 1 rfl hL4 rfl ?_
    refine m_gfr so55 rfl hw4 rfl (by decide) ?_
    refine f_bipush (n := 18) rfl (by decide) ?_
    refine f_iln 2 rfl hL4 rfl ?_
    refine f_imul rfl ?_
    refine f_iln 0 rfl hL4 rfl ?_
    refine f_iadd rfl ?_
    refine m_ia sa71 (m 71 ((18 * x) + 3).toNat) rfl hw4 hm4 (by omega) (by omega) (by decide) rfl ?_
    refine m_ias sa61 rfl hw4 hm4 (by omega) (by omega) (by decide) (hR 71 ((18 * x) + 3).toNat) (fun hc5 hw5 hm5 => ?_)
    refine f_inc 0 [(2, fi (4)), (0, .ref 55), (1, fi (x))] rfl (by decide) hL4 rfl rfl (fun L5 hL5 => ?_)
    refine f_goto rfl ?_
    refine f_iln 0 rfl hL5 rfl ?_
    refine f_bipush (n := 18) rfl (by decide) ?_
    refine f_ic rfl (by decide) (by decide) (fun c_9 => absurd (show (18 : Int) ≤ (4 : Int) from c_9) (by decide)) (fun _ => ?_)
    refine f_aln 1 rfl hL5 rfl ?_
    refine m_gfr so55 rfl hw5 rfl (by decide) ?_
    refine f_iln 0 rfl hL5 rfl ?_
    refine f_aln 1 rfl hL5 rfl ?_
    refine m_gfr so55 rfl hw5 rfl (by decide) ?_
    refine f_bipush (n := 18) rfl (by decide) ?_
    refine f_iln 2 rfl hL5 rfl ?_
    refine f_imul rfl ?_
    refine f_iln 0 rfl hL5 rfl ?_
    refine f_iadd rfl ?_
    refine m_ia sa71 (m 71 ((18 * x) + 4).toNat) rfl hw5 hm5 (by omega) (by omega) (by decide) rfl ?_
    refine m_ias sa61 rfl hw5 hm5 (by omega) (by omega) (by decide) (hR 71 ((18 * x) + 4).toNat) (fun hc6 hw6 hm6 => ?_)
    refine f_inc 0 [(2, fi (5)), (0, .ref 55), (1, fi (x))] rfl (by decide) hL5 rfl rfl (fun L6 hL6 => ?_)
    refine f_goto rfl ?_
    refine f_iln 0 rfl hL6 rfl ?_
    refine f_bipush (n := 18) rfl (by decide) ?_
    refine f_ic rfl (by decide) (by decide) (fun c_9 => absurd (show (18 : Int) ≤ (5 : Int) from c_9) (by decide)) (fun _ => ?_)
    refine f_aln 1 rfl hL6 rfl ?_
    refine m_gfr so55 rfl hw6 rfl (by decide) ?_
    refine f_iln 0 rfl hL6 rfl ?_
    refine f_aln 1 rfl hL6 rfl ?_
    refine m_gfr so55 rfl hw6 rfl (by decide) ?_
    refine f_bipush (n := 18) rfl (by decide) ?_
    refine f_iln 2 rfl hL6 rfl ?_
    refine f_imul rfl ?_
    refine f_iln 0 rfl hL6 rfl ?_
    refine f_iadd rfl ?_
    refine m_ia sa71 (m 71 ((18 * x) + 5).toNat) rfl hw6 hm6 (by omega) (by omega) (by decide) rfl ?_
    refine m_ias sa61 rfl hw6 hm6 (by omega) (by omega) (by decide) (hR 71 ((18 * x) + 5).toNat) (fun hc7 hw7 hm7 => ?_)
    refine f_inc 0 [(2, fi (6)), (0, .ref 55), (1, fi (x))] rfl (by decide) hL6 rfl rfl (fun L7 hL7 => ?_)
    refine f_goto rfl ?_
    refine f_iln 0 rfl hL7 rfl ?_
    refine f_bipush (n := 18) rfl (by decide) ?_
    refine f_ic rfl (by decide) (by decide) (fun c_9 => absurd (show (18 : Int) ≤ (6 : Int) from c_9) (by decide)) (fun _ => ?_)
    refine f_aln 1 rfl hL7 rfl ?_
    refine m_gfr so55 rfl hw7 rfl (by decide) ?_
    refine f_iln 0 rfl hL7 rfl ?_
    refine f_aln 1 rfl hL7 rfl ?_
    refine m_gfr so55 rfl hw7 rfl (by decide) ?_
    refine f_bipush (n := 18) rfl (by decide) ?_
    refine f_iln 2 rfl hL7 rfl ?_
    refine f_imul rfl ?_
    refine f_iln 0 rfl hL7 rfl ?_
    refine f_iadd rfl ?_
    refine m_ia sa71 (m 71 ((18 * x) + 6).toNat) rfl hw7 hm7 (by omega) (by omega) (by decide) rfl ?_
    refine m_ias sa61 rfl hw7 hm7 (by omega) (by omega) (by decide) (hR 71 ((18 * x) + 6).toNat) (fun hc8 hw8 hm8 => ?_)
    refine f_inc 0 [(2, fi (7)), (0, .ref 55), (1, fi (x))] rfl (by decide) hL7 rfl rfl (fun L8 hL8 => ?_)
    refine f_goto rfl ?_
    refine f_iln 0 rfl hL8 rfl ?_
    refine f_bipush (n := 18) rfl (by decide) ?_
    refine f_ic rfl (by decide) (by decide) (fun c_9 => absurd (show (18 : Int) ≤ (7 : Int) from c_9) (by decide)) (fun _ => ?_)
    refine f_aln 1 rfl hL8 rfl ?_
    refine m_gfr so55 rfl hw8 rfl (by decide) ?_
    refine f_iln 0 rfl hL8 rfl ?_
    refine f_aln 1 rfl hL8 rfl ?_
    refine m_gfr so55 rfl hw8 rfl (by decide) ?_
    refine f_bipush (n := 18) rfl (by decide) ?_
    refine f_iln 2 rfl hL8 rfl ?_
    refine f_imul rfl ?_
    refine f_iln 0 rfl hL8 rfl ?_
    refine f_iadd rfl ?_
    refine m_ia sa71 (m 71 ((18 * x) + 7).toNat) rfl hw8 hm8 (by omega) (by omega) (by decide) rfl ?_
    refine m_ias sa61 rfl hw8 hm8 (by omega) (by omega) (by decide) (hR 71 ((18 * x) + 7).toNat) (fun hc9 hw9 hm9 => ?_)
    refine f_inc 0 [(2, fi (8)), (0, .ref 55), (1, fi (x))] rfl (by decide) hL8 rfl rfl (fun L9 hL9 => ?_)
    refine f_goto rfl ?_
    refine f_iln 0 rfl hL9 rfl ?_
    refine f_bipush (n := 18) rfl (by decide) ?_
    refine f_ic rfl (by decide) (by decide) (fun c_9 => absurd (show (18 : Int) ≤ (8 : Int) from c_9) (by decide)) (fun _ => ?_)
    refine f_aln 1 rfl hL9 rfl ?_
    refine m_gfr so55 rfl hw9 rfl (by decide) ?_
    refine f_iln 0 rfl hL9 rfl ?_
    refine f_aln 1 rfl hL9 rfl ?_
    refine m_gfr so55 rfl hw9 rfl (by decide) ?_
    refine f_bipush (n := 18) rfl (by decide) ?_
    refine f_iln 2 rfl hL9 rfl ?_
    refine f_imul rfl ?_
    refine f_iln 0 rfl hL9 rfl ?_
    refine f_iadd rfl ?_
    refine m_ia sa71 (m 71 ((18 * x) + 8).toNat) rfl hw9 hm9 (by omega) (by omega) (by decide) rfl ?_
    refine m_ias sa61 rfl hw9 hm9 (by omega) (by omega) (by decide) (hR 71 ((18 * x) + 8).toNat) (fun hc10 hw10 hm10 => ?_)
    refine f_inc 0 [(2, fi (9)), (0, .ref 55), (1, fi (x))] rfl (by decide) hL9 rfl rfl (fun L10 hL10 => ?_)
    refine f_goto rfl ?_
    refine f_iln 0 rfl hL10 rfl ?_
    refine f_bipush (n := 18) rfl (by decide) ?_
    refine f_ic rfl (by decide) (by decide) (fun c_9 => absurd (show (18 : Int) ≤ (9 : Int) from c_9) (by decide)) (fun _ => ?_)
    refine f_aln 1 rfl hL10 rfl ?_
    refine m_gfr so55 rfl hw10 rfl (by decide) ?_
    refine f_iln 0 rfl hL10 rfl ?_
    refine f_aln 1 rfl hL10 rfl ?_
    refine m_gfr so55 rfl hw10 rfl (by decide) ?_
    refine f_bipush (n := 18) rfl (by decide) ?_
    refine f_iln 2 rfl hL10 rfl ?_
    refine f_imul rfl ?_
    refine f_iln 0 rfl hL10 rfl ?_
    refine f_iadd rfl ?_
    refine m_ia sa71 (m 71 ((18 * x) + 9).toNat) rfl hw10 hm10 (by omega) (by omega) (by decide) rfl ?_
    refine m_ias sa61 rfl hw10 hm10 (by omega) (by omega) (by decide) (hR 71 ((18 * x) + 9).toNat) (fun hc11 hw11 hm11 => ?_)
    refine f_inc 0 [(2, fi (10)), (0, .ref 55), (1, fi (x))] rfl (by decide) hL10 rfl rfl (fun L11 hL11 => ?_)
    refine f_goto rfl ?_
    refine f_iln 0 rfl hL11 rfl ?_
    refine f_bipush (n := 18) rfl (by decide) ?_
    refine f_ic rfl (by decide) (by decide) (fun c_9 => absurd (show (18 : Int) ≤ (10 : Int) from c_9) (by decide)) (fun _ => ?_)
    refine f_aln 1 rfl hL11 rfl ?_
    refine m_gfr so55 rfl hw11 rfl (by decide) ?_
    refine f_iln 0 rfl hL11 rfl ?_
    refine f_aln 1 rfl hL11 rfl ?_
    refine m_gfr so55 rfl hw11 rfl (by decide) ?_
    refine f_bipush (n := 18) rfl (by decide) ?_
    refine f_iln 2 rfl hL11 rfl ?_
    refine f_imul rfl ?_
    refine f_iln 0 rfl hL11 rfl ?_
    refine f_iadd rfl ?_
    refine m_ia sa71 (m 71 ((18 * x) + 10).toNat) rfl hw11 hm11 (by omega) (by omega) (by decide) rfl ?_
    refine m_ias sa61 rfl hw11 hm11 (by omega) (by omega) (by decide) (hR 71 ((18 * x) + 10).toNat) (fun hc12 hw12 hm12 => ?_)
    refine f_inc 0 [(2, fi (11)), (0, .ref 55), (1, fi (x))] rfl (by decide) hL11 rfl rfl (fun L12 hL12 => ?_)
    refine f_goto rfl ?_
    refine f_iln 0 rfl hL12 rfl ?_
    refine f_bipush (n := 18) rfl (by decide) ?_
    refine f_ic rfl (by decide) (by decide) (fun c_9 => absurd (show (18 : Int) ≤ (11 : Int) from c_9) (by decide)) (fun _ => ?_)
    refine f_aln 1 rfl hL12 rfl ?_
    refine m_gfr so55 rfl hw12 rfl (by decide) ?_
    refine f_iln 0 rfl hL12 rfl ?_
    refine f_aln 1 rfl hL12 rfl ?_
    refine m_gfr so55 rfl hw12 rfl (by decide) ?_
    refine f_bipush (n := 18) rfl (by decide) ?_
    refine f_iln 2 rfl hL12 rfl ?_
    refine f_imul rfl ?_
    refine f_iln 0 rfl hL12 rfl ?_
    refine f_iadd rfl ?_
    refine m_ia sa71 (m 71 ((18 * x) + 11).toNat) rfl hw12 hm12 (by omega) (by omega) (by decide) rfl ?_
    refine m_ias sa61 rfl hw12 hm12 (by omega) (by omega) (by decide) (hR 71 ((18 * x) + 11).toNat) (fun hc13 hw13 hm13 => ?_)
    refine f_inc 0 [(2, fi (12)), (0, .ref 55), (1, fi (x))] rfl (by decide) hL12 rfl rfl (fun L13 hL13 => ?_)
    refine f_goto rfl ?_
    refine f_iln 0 rfl hL13 rfl ?_
    refine f_bipush (n := 18) rfl (by decide) ?_
    refine f_ic rfl (by decide) (by decide) (fun c_9 => absurd (show (18 : Int) ≤ (12 : Int) from c_9) (by decide)) (fun _ => ?_)
    refine f_aln 1 rfl hL13 rfl ?_
    refine m_gfr so55 rfl hw13 rfl (by decide) ?_
    refine f_iln 0 rfl hL13 rfl ?_
    refine f_aln 1 rfl hL13 rfl ?_
    refine m_gfr so55 rfl hw13 rfl (by decide) ?_
    refine f_bipush (n := 18) rfl (by decide) ?_
    refine f_iln 2 rfl hL13 rfl ?_
    refine f_imul rfl ?_
    refine f_iln 0 rfl hL13 rfl ?_
    refine f_iadd rfl ?_
    refine m_ia sa71 (m 71 ((18 * x) + 12).toNat) rfl hw13 hm13 (by omega) (by omega) (by decide) rfl ?_
    refine m_ias sa61 rfl hw13 hm13 (by omega) (by omega) (by decide) (hR 71 ((18 * x) + 12).toNat) (fun hc14 hw14 hm14 => ?_)
    refine f_inc 0 [(2, fi (13)), (0, .ref 55), (1, fi (x))] rfl (by decide) hL13 rfl rfl (fun L14 hL14 => ?_)
    refine f_goto rfl ?_
    refine f_iln 0 rfl hL14 rfl ?_
    refine f_bipush (n := 18) rfl (by decide) ?_
    refine f_ic rfl (by decide) (by decide) (fun c_9 => absurd (show (18 : Int) ≤ (13 : Int) from c_9) (by decide)) (fun _ => ?_)
    refine f_aln 1 rfl hL14 rfl ?_
    refine m_gfr so55 rfl hw14 rfl (by decide) ?_
    refine f_iln 0 rfl hL14 rfl ?_
    refine f_aln 1 rfl hL14 rfl ?_
    refine m_gfr so55 rfl hw14 rfl (by decide) ?_
    refine f_bipush (n := 18) rfl (by decide) ?_
    refine f_iln 2 rfl hL14 rfl ?_
    refine f_imul rfl ?_
    refine f_iln 0 rfl hL14 rfl ?_
    refine f_iadd rfl ?_
    refine m_ia sa71 (m 71 ((18 * x) + 13).toNat) rfl hw14 hm14 (by omega) (by omega) (by decide) rfl ?_
    refine m_ias sa61 rfl hw14 hm14 (by omega) (by omega) (by decide) (hR 71 ((18 * x) + 13).toNat) (fun hc15 hw15 hm15 => ?_)
    refine f_inc 0 [(2, fi (14)), (0, .ref 55), (1, fi (x))] rfl (by decide) hL14 rfl rfl (fun L15 hL15 => ?_)
    refine f_goto rfl ?_
    refine f_iln 0 rfl hL15 rfl ?_
    refine f_bipush (n := 18) rfl (by decide) ?_
    refine f_ic rfl (by decide) (by decide) (fun c_9 => absurd (show (18 : Int) ≤ (14 : Int) from c_9) (by decide)) (fun _ => ?_)
    refine f_aln 1 rfl hL15 rfl ?_
    refine m_gfr so55 rfl hw15 rfl (by decide) ?_
    refine f_iln 0 rfl hL15 rfl ?_
    refine f_aln 1 rfl hL15 rfl ?_
    refine m_gfr so55 rfl hw15 rfl (by decide) ?_
    refine f_bipush (n := 18) rfl (by decide) ?_
    refine f_iln 2 rfl hL15 rfl ?_
    refine f_imul rfl ?_
    refine f_iln 0 rfl hL15 rfl ?_
    refine f_iadd rfl ?_
    refine m_ia sa71 (m 71 ((18 * x) + 14).toNat) rfl hw15 hm15 (by omega) (by omega) (by decide) rfl ?_
    refine m_ias sa61 rfl hw15 hm15 (by omega) (by omega) (by decide) (hR 71 ((18 * x) + 14).toNat) (fun hc16 hw16 hm16 => ?_)
    refine f_inc 0 [(2, fi (15)), (0, .ref 55), (1, fi (x))] rfl (by decide) hL15 rfl rfl (fun L16 hL16 => ?_)
    refine f_goto rfl ?_
    refine f_iln 0 rfl hL16 rfl ?_
    refine f_bipush (n := 18) rfl (by decide) ?_
    refine f_ic rfl (by decide) (by decide) (fun c_9 => absurd (show (18 : Int) ≤ (15 : Int) from c_9) (by decide)) (fun _ => ?_)
    refine f_aln 1 rfl hL16 rfl ?_
    refine m_gfr so55 rfl hw16 rfl (by decide) ?_
    refine f_iln 0 rfl hL16 rfl ?_
    refine f_aln 1 rfl hL16 rfl ?_
    refine m_gfr so55 rfl hw16 rfl (by decide) ?_
    refine f_bipush (n := 18) rfl (by decide) ?_
    refine f_iln 2 rfl hL16 rfl ?_
    refine f_imul rfl ?_
    refine f_iln 0 rfl hL16 rfl ?_
    refine f_iadd rfl ?_
    refine m_ia sa71 (m 71 ((18 * x) + 15).toNat) rfl hw16 hm16 (by omega) (by omega) (by decide) rfl ?_
    refine m_ias sa61 rfl hw16 hm16 (by omega) (by omega) (by decide) (hR 71 ((18 * x) + 15).toNat) (fun hc17 hw17 hm17 => ?_)
    refine f_inc 0 [(2, fi (16)), (0, .ref 55), (1, fi (x))] rfl (by decide) hL16 rfl rfl (fun L17 hL17 => ?_)
    refine f_goto rfl ?_
    refine f_iln 0 rfl hL17 rfl ?_
    refine f_bipush (n := 18) rfl (by decide) ?_
    refine f_ic rfl (by decide) (by decide) (fun c_9 => absurd (show (18 : Int) ≤ (16 : Int) from c_9) (by decide)) (fun _ => ?_)
    refine f_aln 1 rfl hL17 rfl ?_
    refine m_gfr so55 rfl hw17 rfl (by decide) ?_
    refine f_iln 0 rfl hL17 rfl ?_
    refine f_aln 1 rfl hL17 rfl ?_
    refine m_gfr so55 rfl hw17 rfl (by decide) ?_
    refine f_bipush (n := 18) rfl (by decide) ?_
    refine f_iln 2 rfl hL17 rfl ?_
    refine f_imul rfl ?_
    refine f_iln 0 rfl hL17 rfl ?_
    refine f_iadd rfl ?_
    refine m_ia sa71 (m 71 ((18 * x) + 16).toNat) rfl hw17 hm17 (by omega) (by omega) (by decide) rfl ?_
    refine m_ias sa61 rfl hw17 hm17 (by omega) (by omega) (by decide) (hR 71 ((18 * x) + 16).toNat) (fun hc18 hw18 hm18 => ?_)
    refine f_inc 0 [(2, fi (17)), (0, .ref 55), (1, fi (x))] rfl (by decide) hL17 rfl rfl (fun L18 hL18 => ?_)
    refine f_goto rfl ?_
    refine f_iln 0 rfl hL18 rfl ?_
    refine f_bipush (n := 18) rfl (by decide) ?_
    refine f_ic rfl (by decide) (by decide) (fun c_9 => absurd (show (18 : Int) ≤ (17 : Int) from c_9) (by decide)) (fun _ => ?_)
    refine f_aln 1 rfl hL18 rfl ?_
    refine m_gfr so55 rfl hw18 rfl (by decide) ?_
    refine f_iln 0 rfl hL18 rfl ?_
    refine f_aln 1 rfl hL18 rfl ?_
    refine m_gfr so55 rfl hw18 rfl (by decide) ?_
    refine f_bipush (n := 18) rfl (by decide) ?_
    refine f_iln 2 rfl hL18 rfl ?_
    refine f_imul rfl ?_
    refine f_iln 0 rfl hL18 rfl ?_
    refine f_iadd rfl ?_
    refine m_ia sa71 (m 71 ((18 * x) + 17).toNat) rfl hw18 hm18 (by omega) (by omega) (by decide) rfl ?_
    refine m_ias sa61 rfl hw18 hm18 (by omega) (by omega) (by decide) (hR 71 ((18 * x) + 17).toNat) (fun hc19 hw19 hm19 => ?_)
    refine f_inc 0 [(2, fi (18)), (0, .ref 55), (1, fi (x))] rfl (by decide) hL18 rfl rfl (fun L19 hL19 => ?_)
    refine f_goto rfl ?_
    refine f_iln 0 rfl hL19 rfl ?_
    refine f_bipush (n := 18) rfl (by decide) ?_
    refine f_ic rfl (by decide) (by decide) (fun _ => ?_) (fun c_9 => absurd (show (18 : Int) ≤ (18 : Int) from (by decide)) c_9)
    refine f_aln 1 rfl hL19 rfl ?_
    refine f_s [fi (0), .ref 55] rfl rfl ?_
    refine m_pf so55 rfl hw19 hm19 rfl rfl (by decide) (fun hc20 hw20 hm20 => ?_)
    refine f_aln 1 rfl hL19 rfl ?_
    refine m_gfr so55 rfl hw20 rfl (by decide) ?_
    refine f_bipush (n := 17) rfl (by decide) ?_
    refine m_ia sa61 (m 71 ((18 * x) + 17).toNat) rfl hw20 hm20 (by omega) (by omega) (by decide) rfl ?_
    have key : gi hc20 = agM m x := by
      rw [hm20]
      unfold agM
      rw [← lay_eq m 71 (18 * (x).toNat) 61 0 (by decide)]
      rw [show ((18 * (x)) + 0).toNat = 18 * (x).toNat + 0 by omega]
      rw [show ((18 * (x)) + 1).toNat = 18 * (x).toNat + 1 by omega]
      rw [show ((18 * (x)) + 2).toNat = 18 * (x).toNat + 2 by omega]
      rw [show ((18 * (x)) + 3).toNat = 18 * (x).toNat + 3 by omega]
      rw [show ((18 * (x)) + 4).toNat = 18 * (x).toNat + 4 by omega]
      rw [show ((18 * (x)) + 5).toNat = 18 * (x).toNat + 5 by omega]
      rw [show ((18 * (x)) + 6).toNat = 18 * (x).toNat + 6 by omega]
      rw [show ((18 * (x)) + 7).toNat = 18 * (x).toNat + 7 by omega]
      rw [show ((18 * (x)) + 8).toNat = 18 * (x).toNat + 8 by omega]
      rw [show ((18 * (x)) + 9).toNat = 18 * (x).toNat + 9 by omega]
      rw [show ((18 * (x)) + 10).toNat = 18 * (x).toNat + 10 by omega]
      rw [show ((18 * (x)) + 11).toNat = 18 * (x).toNat + 11 by omega]
      rw [show ((18 * (x)) + 12).toNat = 18 * (x).toNat + 12 by omega]
      rw [show ((18 * (x)) + 13).toNat = 18 * (x).toNat + 13 by omega]
      rw [show ((18 * (x)) + 14).toNat = 18 * (x).toNat + 14 by omega]
      rw [show ((18 * (x)) + 15).toNat = 18 * (x).toNat + 15 by omega]
      rw [show ((18 * (x)) + 16).toNat = 18 * (x).toNat + 16 by omega]
      rw [show ((18 * (x)) + 17).toNat = 18 * (x).toNat + 17 by omega]
      try rfl
    exact f_ret1 rfl ⟨by rw [show ((18 * (x)) + 17).toNat = 18 * (x).toNat + 17 by omega], hw20, key⟩
  · have c1 : ¬ (¬ (bI (decide (0 ≤ x ∧ x ≤ 1)) : Int) = (0 : Int)) := c1
    have c1 : ¬ (0 ≤ x ∧ x ≤ 1) := bI_n c1
    exact absurd h0 c1)
def sb0 (m : Nat → Nat → Int) (x : Int) (k : Int) (a : Int) : Int := if k < m 55 0 then (if ¬ a = 0 ∨ (¬ k = x ∧ m 56 k.toNat = 1 ∧ ¬ dw0 m k = 0) then 1 else 0) else a
def sbM0 (m : Nat → Nat → Int) (x : Int) : Int := if x = -9 then 0 else if ¬ m 56 x.toNat = 1 then 1 else sb0 m x 3 (sb0 m x 2 (sb0 m x 1 (sb0 m x 0 0)))
theorem sb0_01 {m : Nat → Nat → Int} {x k a : Int} (h : a = 0 ∨ a = 1) : sb0 m x k a = 0 ∨ sb0 m x k a = 1 := by
  unfold sb0
  split
  · split
    · exact Or.inr rfl
    · exact Or.inl rfl
  · exact h
theorem sbM0_01 (m : Nat → Nat → Int) (x : Int) : sbM0 m x = 0 ∨ sbM0 m x = 1 := by
  unfold sbM0
  split
  · exact Or.inl rfl
  · split
    · exact Or.inr rfl
    · exact sb0_01 (sb0_01 (sb0_01 (sb0_01 (Or.inl rfl))))
theorem t62_0 {m : Nat → Nat → Int} (hn : 0 ≤ m 55 0 ∧ m 55 0 ≤ 4) (hp : 0 ≤ m 55 1 ∧ m 55 1 ≤ 5) {p : Int} (p1 : 0 ≤ p) (p2 : p < 5) {wv kv : Int} (hv : m 61 (0 + p).toNat = wv) (rwv : -2147483648 ≤ wv ∧ wv ≤ 2147483647) (jv : wv = -9 ∨ (0 ≤ wv ∧ wv < 4)) (hkv : m 56 (wv).toNat = kv) (rkv : -2147483648 ≤ kv ∧ kv ≤ 2147483647) : h_M 62 [.ref 55, fi (0), fi (p)] m (some (fi (sbM0 m wv))) m := h_M_of (R := ev_r62) rfl (fun hc hw hm => by
  have hL : f_L (lv_args 0 [.ref 55, fi (0), fi (p)]) [(0, .ref 55), (1, fi (0)), (2, fi (p))] := f_L_of rfl
  generalize lv_args 0 [.ref 55, fi (0), fi (p)] = L at hL
  show x_W none (2, 0, 6, 2, 11, 1, 24, 0, 0, ev_t62) 0 L [] hc 0 0 _
  have hR := gi_R hm
  have hK4 : ∀ (hc : ev_H) (b : Int) (L : ev_L), y_in yGw hc → gi hc = m → (b = 0 ∨ b = 1) → f_L L [(5, fi (4)), (4, fi (b)), (0, .ref 55), (1, fi (0)), (3, fi (wv))] → x_W none (2, 0, 6, 2, 11, 1, 24, 0, 0, ev_t62) 46 L [] hc 0 0 (fun r' h' => r' = some (fi (b)) ∧ y_in yGw h' ∧ gi h' = m) := fun hc b L hw hm rb hL => by
    refine f_il 0 rfl hL rfl ?_
    refine f_aln 2 rfl hL rfl ?_
    refine m_gfi so55 (m 55 0) rfl hw hm rfl rfl ?_
    refine f_ic rfl (by omega) (by omega) (fun _ => ?_) (fun c_9 => absurd (show (m 55 0 : Int) ≤ (4 : Int) from (by omega)) c_9)
    refine f_il 1 rfl hL rfl ?_
    exact f_ret2 rfl rb ⟨rfl, hw, hm⟩
  have hK3 : ∀ (hc : ev_H) (b : Int) (L : ev_L), y_in yGw hc → gi hc = m → (b = 0 ∨ b = 1) → f_L L [(5, fi (3)), (4, fi (b)), (0, .ref 55), (1, fi (0)), (3, fi (wv))] → x_W none (2, 0, 6, 2, 11, 1, 24, 0, 0, ev_t62) 46 L [] hc 0 0 (fun r' h' => r' = some (fi (sb0 m wv 3 (b))) ∧ y_in yGw h' ∧ gi h' = m) := fun hc b L hw hm rb hL => by
    refine f_il 0 rfl hL rfl ?_
    refine f_aln 2 rfl hL rfl ?_
    refine m_gfi so55 (m 55 0) rfl hw hm rfl rfl ?_
    refine f_ic rfl (by decide) (by omega) (fun c1 => ?_) (fun c1 => ?_)
    · have c1 : (m 55 0 : Int) ≤ (3 : Int) := c1
      have e8 : sb0 m wv 3 (b) = b := by unfold sb0; rw [if_neg (by omega)]
      rw [e8]
      refine f_il 1 rfl hL rfl ?_
      exact f_ret2 rfl rb ⟨rfl, hw, hm⟩
    · have c1 : ¬ ((m 55 0 : Int) ≤ (3 : Int)) := c1
      refine f_il 1 rfl hL rfl ?_
      refine f_if rfl (by omega) (fun c2 => ?_) (fun c2 => ?_)
      · have c2 : ¬ (b : Int) = (0 : Int) := c2
        refine f_s [fi (1)] rfl rfl ?_
        refine f_goto rfl ?_
        refine f_ist [(4, fi (1)), (5, fi (3)), (0, .ref 55), (1, fi (0)), (3, fi (wv))] rfl (by decide) hL rfl (fun L1 hL1 => ?_)
        refine f_inc 1 [(5, fi (4)), (4, fi (1)), (0, .ref 55), (1, fi (0)), (3, fi (wv))] rfl (by decide) hL1 rfl rfl (fun L2 hL2 => ?_)
        refine f_goto rfl ?_
        have e9 : sb0 m wv 3 b = 1 := by
          unfold sb0
          rw [if_pos (by omega), if_pos (Or.inl (by omega))]
        rw [e9]
        exact hK4 hc 1 _ hw hm (Or.inr rfl) (hL2.sel [0, 1, 2, 3, 4] rfl)
      · have c2 : ¬ (¬ (b : Int) = (0 : Int)) := c2
        refine f_il 0 rfl hL rfl ?_
        refine f_iln 4 rfl hL rfl ?_
        refine f_ic rfl (by decide) (by omega) (fun c3 => ?_) (fun c3 => ?_)
        · have c3 : (3 : Int) = (wv : Int) := c3
          refine f_s [fi (0)] rfl rfl ?_
          refine f_ist [(4, fi (0)), (5, fi (3)), (0, .ref 55), (1, fi (0)), (3, fi (wv))] rfl (by decide) hL rfl (fun L3 hL3 => ?_)
          refine f_inc 1 [(5, fi (4)), (4, fi (0)), (0, .ref 55), (1, fi (0)), (3, fi (wv))] rfl (by decide) hL3 rfl rfl (fun L4 hL4 => ?_)
          refine f_goto rfl ?_
          have e9 : sb0 m wv 3 b = 0 := by
            unfold sb0
            rw [if_pos (by omega), if_neg (fun z => z.elim (fun y => y (by omega)) (fun y => y.1 (by omega)))]
          rw [e9]
          exact hK4 hc 0 _ hw hm (Or.inl rfl) (hL4.sel [0, 1, 2, 3, 4] rfl)
        · have c3 : ¬ ((3 : Int) = (wv : Int)) := c3
          refine f_aln 2 rfl hL rfl ?_
          refine m_gfr so55 rfl hw rfl (by decide) ?_
          refine f_il 0 rfl hL rfl ?_
          refine m_ia sa56 (m 56 3) rfl hw hm (by omega) (by omega) (by decide) rfl ?_
          refine f_s [fi (1), fi (m 56 3)] rfl rfl ?_
          refine f_ic rfl (hR 56 3) (by decide) (fun c4 => ?_) (fun c4 => ?_)
          · have c4 : ¬ (m 56 3 : Int) = (1 : Int) := c4
            refine f_s [fi (0)] rfl rfl ?_
            refine f_ist [(4, fi (0)), (5, fi (3)), (0, .ref 55), (1, fi (0)), (3, fi (wv))] rfl (by decide) hL rfl (fun L5 hL5 => ?_)
            refine f_inc 1 [(5, fi (4)), (4, fi (0)), (0, .ref 55), (1, fi (0)), (3, fi (wv))] rfl (by decide) hL5 rfl rfl (fun L6 hL6 => ?_)
            refine f_goto rfl ?_
            have e9 : sb0 m wv 3 b = 0 := by
              unfold sb0
              rw [if_pos (by omega), if_neg (fun z => z.elim (fun y => y (by omega)) (fun y => c4 y.2.1))]
            rw [e9]
            exact hK4 hc 0 _ hw hm (Or.inl rfl) (hL6.sel [0, 1, 2, 3, 4] rfl)
          · have c4 : ¬ (¬ (m 56 3 : Int) = (1 : Int)) := c4
            refine f_aln 2 rfl hL rfl ?_
            refine f_iln 3 rfl hL rfl ?_
            refine f_il 0 rfl hL rfl ?_
            refine m_k1 (t47_0 hp (by decide)) hw hm rfl rfl rfl (m_ar so55 hw rfl) rfl (fun hc1 hw1 hm1 => ?_)
            refine f_if rfl (dw0_r m 3) (fun c5 => ?_) (fun c5 => ?_)
            · have c5 : (dw0 m 3 : Int) = (0 : Int) := c5
              refine f_s [fi (0)] rfl rfl ?_
              refine f_ist [(4, fi (0)), (5, fi (3)), (0, .ref 55), (1, fi (0)), (3, fi (wv))] rfl (by decide) hL rfl (fun L7 hL7 => ?_)
              refine f_inc 1 [(5, fi (4)), (4, fi (0)), (0, .ref 55), (1, fi (0)), (3, fi (wv))] rfl (by decide) hL7 rfl rfl (fun L8 hL8 => ?_)
              refine f_goto rfl ?_
              have e9 : sb0 m wv 3 b = 0 := by
                unfold sb0
                rw [if_pos (by omega), if_neg (fun z => z.elim (fun y => y (by omega)) (fun y => y.2.2 (by omega)))]
              rw [e9]
              exact hK4 hc1 0 _ hw1 hm1 (Or.inl rfl) (hL8.sel [0, 1, 2, 3, 4] rfl)
            · have c5 : ¬ ((dw0 m 3 : Int) = (0 : Int)) := c5
              refine f_s [fi (1)] rfl rfl ?_
              refine f_goto rfl ?_
              refine f_ist [(4, fi (1)), (5, fi (3)), (0, .ref 55), (1, fi (0)), (3, fi (wv))] rfl (by decide) hL rfl (fun L9 hL9 => ?_)
              refine f_inc 1 [(5, fi (4)), (4, fi (1)), (0, .ref 55), (1, fi (0)), (3, fi (wv))] rfl (by decide) hL9 rfl rfl (fun L10 hL10 => ?_)
              refine f_goto rfl ?_
              have e9 : sb0 m wv 3 b = 1 := by
                unfold sb0
                rw [if_pos (by omega), if_pos (Or.inr ⟨by omega, by first | exact c4 | (simpa using c4) | omega, by omega⟩)]
              rw [e9]
              exact hK4 hc1 1 _ hw1 hm1 (Or.inr rfl) (hL10.sel [0, 1, 2, 3, 4] rfl)
  have hK2 : ∀ (hc : ev_H) (b : Int) (L : ev_L), y_in yGw hc → gi hc = m → (b = 0 ∨ b = 1) → f_L L [(5, fi (2)), (4, fi (b)), (0, .ref 55), (1, fi (0)), (3, fi (wv))] → x_W none (2, 0, 6, 2, 11, 1, 24, 0, 0, ev_t62) 46 L [] hc 0 0 (fun r' h' => r' = some (fi (sb0 m wv 3 (sb0 m wv 2 (b)))) ∧ y_in yGw h' ∧ gi h' = m) := fun hc b L hw hm rb hL => by
    refine f_il 0 rfl hL rfl ?_
    refine f_aln 2 rfl hL rfl ?_
    refine m_gfi so55 (m 55 0) rfl hw hm rfl rfl ?_
    refine f_ic rfl (by decide) (by omega) (fun c1 => ?_) (fun c1 => ?_)
    · have c1 : (m 55 0 : Int) ≤ (2 : Int) := c1
      have e8 : sb0 m wv 3 (sb0 m wv 2 (b)) = b := by unfold sb0; rw [if_neg (by omega), if_neg (by omega)]
      rw [e8]
      refine f_il 1 rfl hL rfl ?_
      exact f_ret2 rfl rb ⟨rfl, hw, hm⟩
    · have c1 : ¬ ((m 55 0 : Int) ≤ (2 : Int)) := c1
      refine f_il 1 rfl hL rfl ?_
      refine f_if rfl (by omega) (fun c2 => ?_) (fun c2 => ?_)
      · have c2 : ¬ (b : Int) = (0 : Int) := c2
        refine f_s [fi (1)] rfl rfl ?_
        refine f_goto rfl ?_
        refine f_ist [(4, fi (1)), (5, fi (2)), (0, .ref 55), (1, fi (0)), (3, fi (wv))] rfl (by decide) hL rfl (fun L11 hL11 => ?_)
        refine f_inc 1 [(5, fi (3)), (4, fi (1)), (0, .ref 55), (1, fi (0)), (3, fi (wv))] rfl (by decide) hL11 rfl rfl (fun L12 hL12 => ?_)
        refine f_goto rfl ?_
        have e9 : sb0 m wv 2 b = 1 := by
          unfold sb0
          rw [if_pos (by omega), if_pos (Or.inl (by omega))]
        rw [e9]
        exact hK3 hc 1 _ hw hm (Or.inr rfl) (hL12.sel [0, 1, 2, 3, 4] rfl)
      · have c2 : ¬ (¬ (b : Int) = (0 : Int)) := c2
        refine f_il 0 rfl hL rfl ?_
        refine f_iln 4 rfl hL rfl ?_
        refine f_ic rfl (by decide) (by omega) (fun c3 => ?_) (fun c3 => ?_)
        · have c3 : (2 : Int) = (wv : Int) := c3
          refine f_s [fi (0)] rfl rfl ?_
          refine f_ist [(4, fi (0)), (5, fi (2)), (0, .ref 55), (1, fi (0)), (3, fi (wv))] rfl (by decide) hL rfl (fun L13 hL13 => ?_)
          refine f_inc 1 [(5, fi (3)), (4, fi (0)), (0, .ref 55), (1, fi (0)), (3, fi (wv))] rfl (by decide) hL13 rfl rfl (fun L14 hL14 => ?_)
          refine f_goto rfl ?_
          have e9 : sb0 m wv 2 b = 0 := by
            unfold sb0
            rw [if_pos (by omega), if_neg (fun z => z.elim (fun y => y (by omega)) (fun y => y.1 (by omega)))]
          rw [e9]
          exact hK3 hc 0 _ hw hm (Or.inl rfl) (hL14.sel [0, 1, 2, 3, 4] rfl)
        · have c3 : ¬ ((2 : Int) = (wv : Int)) := c3
          refine f_aln 2 rfl hL rfl ?_
          refine m_gfr so55 rfl hw rfl (by decide) ?_
          refine f_il 0 rfl hL rfl ?_
          refine m_ia sa56 (m 56 2) rfl hw hm (by omega) (by omega) (by decide) rfl ?_
          refine f_s [fi (1), fi (m 56 2)] rfl rfl ?_
          refine f_ic rfl (hR 56 2) (by decide) (fun c4 => ?_) (fun c4 => ?_)
          · have c4 : ¬ (m 56 2 : Int) = (1 : Int) := c4
            refine f_s [fi (0)] rfl rfl ?_
            refine f_ist [(4, fi (0)), (5, fi (2)), (0, .ref 55), (1, fi (0)), (3, fi (wv))] rfl (by decide) hL rfl (fun L15 hL15 => ?_)
            refine f_inc 1 [(5, fi (3)), (4, fi (0)), (0, .ref 55), (1, fi (0)), (3, fi (wv))] rfl (by decide) hL15 rfl rfl (fun L16 hL16 => ?_)
            refine f_goto rfl ?_
            have e9 : sb0 m wv 2 b = 0 := by
              unfold sb0
              rw [if_pos (by omega), if_neg (fun z => z.elim (fun y => y (by omega)) (fun y => c4 y.2.1))]
            rw [e9]
            exact hK3 hc 0 _ hw hm (Or.inl rfl) (hL16.sel [0, 1, 2, 3, 4] rfl)
          · have c4 : ¬ (¬ (m 56 2 : Int) = (1 : Int)) := c4
            refine f_aln 2 rfl hL rfl ?_
            refine f_iln 3 rfl hL rfl ?_
            refine f_il 0 rfl hL rfl ?_
            refine m_k1 (t47_0 hp (by decide)) hw hm rfl rfl rfl (m_ar so55 hw rfl) rfl (fun hc2 hw2 hm2 => ?_)
            refine f_if rfl (dw0_r m 2) (fun c5 => ?_) (fun c5 => ?_)
            · have c5 : (dw0 m 2 : Int) = (0 : Int) := c5
              refine f_s [fi (0)] rfl rfl ?_
              refine f_ist [(4, fi (0)), (5, fi (2)), (0, .ref 55), (1, fi (0)), (3, fi (wv))] rfl (by decide) hL rfl (fun L17 hL17 => ?_)
              refine f_inc 1 [(5, fi (3)), (4, fi (0)), (0, .ref 55), (1, fi (0)), (3, fi (wv))] rfl (by decide) hL17 rfl rfl (fun L18 hL18 => ?_)
              refine f_goto rfl ?_
              have e9 : sb0 m wv 2 b = 0 := by
                unfold sb0
                rw [if_pos (by omega), if_neg (fun z => z.elim (fun y => y (by omega)) (fun y => y.2.2 (by omega)))]
              rw [e9]
              exact hK3 hc2 0 _ hw2 hm2 (Or.inl rfl) (hL18.sel [0, 1, 2, 3, 4] rfl)
            · have c5 : ¬ ((dw0 m 2 : Int) = (0 : Int)) := c5
              refine f_s [fi (1)] rfl rfl ?_
              refine f_goto rfl ?_
              refine f_ist [(4, fi (1)), (5, fi (2)), (0, .ref 55), (1, fi (0)), (3, fi (wv))] rfl (by decide) hL rfl (fun L19 hL19 => ?_)
              refine f_inc 1 [(5, fi (3)), (4, fi (1)), (0, .ref 55), (1, fi (0)), (3, fi (wv))] rfl (by decide) hL19 rfl rfl (fun L20 hL20 => ?_)
              refine f_goto rfl ?_
              have e9 : sb0 m wv 2 b = 1 := by
                unfold sb0
                rw [if_pos (by omega), if_pos (Or.inr ⟨by omega, by first | exact c4 | (simpa using c4) | omega, by omega⟩)]
              rw [e9]
              exact hK3 hc2 1 _ hw2 hm2 (Or.inr rfl) (hL20.sel [0, 1, 2, 3, 4] rfl)
  have hK1 : ∀ (hc : ev_H) (b : Int) (L : ev_L), y_in yGw hc → gi hc = m → (b = 0 ∨ b = 1) → f_L L [(5, fi (1)), (4, fi (b)), (0, .ref 55), (1, fi (0)), (3, fi (wv))] → x_W none (2, 0, 6, 2, 11, 1, 24, 0, 0, ev_t62) 46 L [] hc 0 0 (fun r' h' => r' = some (fi (sb0 m wv 3 (sb0 m wv 2 (sb0 m wv 1 (b))))) ∧ y_in yGw h' ∧ gi h' = m) := fun hc b L hw hm rb hL => by
    refine f_il 0 rfl hL rfl ?_
    refine f_aln 2 rfl hL rfl ?_
    refine m_gfi so55 (m 55 0) rfl hw hm rfl rfl ?_
    refine f_ic rfl (by decide) (by omega) (fun c1 => ?_) (fun c1 => ?_)
    · have c1 : (m 55 0 : Int) ≤ (1 : Int) := c1
      have e8 : sb0 m wv 3 (sb0 m wv 2 (sb0 m wv 1 (b))) = b := by unfold sb0; rw [if_neg (by omega), if_neg (by omega), if_neg (by omega)]
      rw [e8]
      refine f_il 1 rfl hL rfl ?_
      exact f_ret2 rfl rb ⟨rfl, hw, hm⟩
    · have c1 : ¬ ((m 55 0 : Int) ≤ (1 : Int)) := c1
      refine f_il 1 rfl hL rfl ?_
      refine f_if rfl (by omega) (fun c2 => ?_) (fun c2 => ?_)
      · have c2 : ¬ (b : Int) = (0 : Int) := c2
        refine f_s [fi (1)] rfl rfl ?_
        refine f_goto rfl ?_
        refine f_ist [(4, fi (1)), (5, fi (1)), (0, .ref 55), (1, fi (0)), (3, fi (wv))] rfl (by decide) hL rfl (fun L21 hL21 => ?_)
        refine f_inc 1 [(5, fi (2)), (4, fi (1)), (0, .ref 55), (1, fi (0)), (3, fi (wv))] rfl (by decide) hL21 rfl rfl (fun L22 hL22 => ?_)
        refine f_goto rfl ?_
        have e9 : sb0 m wv 1 b = 1 := by
          unfold sb0
          rw [if_pos (by omega), if_pos (Or.inl (by omega))]
        rw [e9]
        exact hK2 hc 1 _ hw hm (Or.inr rfl) (hL22.sel [0, 1, 2, 3, 4] rfl)
      · have c2 : ¬ (¬ (b : Int) = (0 : Int)) := c2
        refine f_il 0 rfl hL rfl ?_
        refine f_iln 4 rfl hL rfl ?_
        refine f_ic rfl (by decide) (by omega) (fun c3 => ?_) (fun c3 => ?_)
        · have c3 : (1 : Int) = (wv : Int) := c3
          refine f_s [fi (0)] rfl rfl ?_
          refine f_ist [(4, fi (0)), (5, fi (1)), (0, .ref 55), (1, fi (0)), (3, fi (wv))] rfl (by decide) hL rfl (fun L23 hL23 => ?_)
          refine f_inc 1 [(5, fi (2)), (4, fi (0)), (0, .ref 55), (1, fi (0)), (3, fi (wv))] rfl (by decide) hL23 rfl rfl (fun L24 hL24 => ?_)
          refine f_goto rfl ?_
          have e9 : sb0 m wv 1 b = 0 := by
            unfold sb0
            rw [if_pos (by omega), if_neg (fun z => z.elim (fun y => y (by omega)) (fun y => y.1 (by omega)))]
          rw [e9]
          exact hK2 hc 0 _ hw hm (Or.inl rfl) (hL24.sel [0, 1, 2, 3, 4] rfl)
        · have c3 : ¬ ((1 : Int) = (wv : Int)) := c3
          refine f_aln 2 rfl hL rfl ?_
          refine m_gfr so55 rfl hw rfl (by decide) ?_
          refine f_il 0 rfl hL rfl ?_
          refine m_ia sa56 (m 56 1) rfl hw hm (by omega) (by omega) (by decide) rfl ?_
          refine f_s [fi (1), fi (m 56 1)] rfl rfl ?_
          refine f_ic rfl (hR 56 1) (by decide) (fun c4 => ?_) (fun c4 => ?_)
          · have c4 : ¬ (m 56 1 : Int) = (1 : Int) := c4
            refine f_s [fi (0)] rfl rfl ?_
            refine f_ist [(4, fi (0)), (5, fi (1)), (0, .ref 55), (1, fi (0)), (3, fi (wv))] rfl (by decide) hL rfl (fun L25 hL25 => ?_)
            refine f_inc 1 [(5, fi (2)), (4, fi (0)), (0, .ref 55), (1, fi (0)), (3, fi (wv))] rfl (by decide) hL25 rfl rfl (fun L26 hL26 => ?_)
            refine f_goto rfl ?_
            have e9 : sb0 m wv 1 b = 0 := by
              unfold sb0
              rw [if_pos (by omega), if_neg (fun z => z.elim (fun y => y (by omega)) (fun y => c4 y.2.1))]
            rw [e9]
            exact hK2 hc 0 _ hw hm (Or.inl rfl) (hL26.sel [0, 1, 2, 3, 4] rfl)
          · have c4 : ¬ (¬ (m 56 1 : Int) = (1 : Int)) := c4
            refine f_aln 2 rfl hL rfl ?_
            refine f_iln 3 rfl hL rfl ?_
            refine f_il 0 rfl hL rfl ?_
            refine m_k1 (t47_0 hp (by decide)) hw hm rfl rfl rfl (m_ar so55 hw rfl) rfl (fun hc3 hw3 hm3 => ?_)
            refine f_if rfl (dw0_r m 1) (fun c5 => ?_) (fun c5 => ?_)
            · have c5 : (dw0 m 1 : Int) = (0 : Int) := c5
              refine f_s [fi (0)] rfl rfl ?_
              refine f_ist [(4, fi (0)), (5, fi (1)), (0, .ref 55), (1, fi (0)), (3, fi (wv))] rfl (by decide) hL rfl (fun L27 hL27 => ?_)
              refine f_inc 1 [(5, fi (2)), (4, fi (0)), (0, .ref 55), (1, fi (0)), (3, fi (wv))] rfl (by decide) hL27 rfl rfl (fun L28 hL28 => ?_)
              refine f_goto rfl ?_
              have e9 : sb0 m wv 1 b = 0 := by
                unfold sb0
                rw [if_pos (by omega), if_neg (fun z => z.elim (fun y => y (by omega)) (fun y => y.2.2 (by omega)))]
              rw [e9]
              exact hK2 hc3 0 _ hw3 hm3 (Or.inl rfl) (hL28.sel [0, 1, 2, 3, 4] rfl)
            · have c5 : ¬ ((dw0 m 1 : Int) = (0 : Int)) := c5
              refine f_s [fi (1)] rfl rfl ?_
              refine f_goto rfl ?_
              refine f_ist [(4, fi (1)), (5, fi (1)), (0, .ref 55), (1, fi (0)), (3, fi (wv))] rfl (by decide) hL rfl (fun L29 hL29 => ?_)
              refine f_inc 1 [(5, fi (2)), (4, fi (1)), (0, .ref 55), (1, fi (0)), (3, fi (wv))] rfl (by decide) hL29 rfl rfl (fun L30 hL30 => ?_)
              refine f_goto rfl ?_
              have e9 : sb0 m wv 1 b = 1 := by
                unfold sb0
                rw [if_pos (by omega), if_pos (Or.inr ⟨by omega, by first | exact c4 | (simpa using c4) | omega, by omega⟩)]
              rw [e9]
              exact hK2 hc3 1 _ hw3 hm3 (Or.inr rfl) (hL30.sel [0, 1, 2, 3, 4] rfl)
  have hK0 : ∀ (hc : ev_H) (b : Int) (L : ev_L), y_in yGw hc → gi hc = m → (b = 0 ∨ b = 1) → f_L L [(5, fi (0)), (4, fi (b)), (0, .ref 55), (1, fi (0)), (3, fi (wv))] → x_W none (2, 0, 6, 2, 11, 1, 24, 0, 0, ev_t62) 46 L [] hc 0 0 (fun r' h' => r' = some (fi (sb0 m wv 3 (sb0 m wv 2 (sb0 m wv 1 (sb0 m wv 0 (b)))))) ∧ y_in yGw h' ∧ gi h' = m) := fun hc b L hw hm rb hL => by
    refine f_il 0 rfl hL rfl ?_
    refine f_aln 2 rfl hL rfl ?_
    refine m_gfi so55 (m 55 0) rfl hw hm rfl rfl ?_
    refine f_ic rfl (by decide) (by omega) (fun c1 => ?_) (fun c1 => ?_)
    · have c1 : (m 55 0 : Int) ≤ (0 : Int) := c1
      have e8 : sb0 m wv 3 (sb0 m wv 2 (sb0 m wv 1 (sb0 m wv 0 (b)))) = b := by unfold sb0; rw [if_neg (by omega), if_neg (by omega), if_neg (by omega), if_neg (by omega)]
      rw [e8]
      refine f_il 1 rfl hL rfl ?_
      exact f_ret2 rfl rb ⟨rfl, hw, hm⟩
    · have c1 : ¬ ((m 55 0 : Int) ≤ (0 : Int)) := c1
      refine f_il 1 rfl hL rfl ?_
      refine f_if rfl (by omega) (fun c2 => ?_) (fun c2 => ?_)
      · have c2 : ¬ (b : Int) = (0 : Int) := c2
        refine f_s [fi (1)] rfl rfl ?_
        refine f_goto rfl ?_
        refine f_ist [(4, fi (1)), (5, fi (0)), (0, .ref 55), (1, fi (0)), (3, fi (wv))] rfl (by decide) hL rfl (fun L31 hL31 => ?_)
        refine f_inc 1 [(5, fi (1)), (4, fi (1)), (0, .ref 55), (1, fi (0)), (3, fi (wv))] rfl (by decide) hL31 rfl rfl (fun L32 hL32 => ?_)
        refine f_goto rfl ?_
        have e9 : sb0 m wv 0 b = 1 := by
          unfold sb0
          rw [if_pos (by omega), if_pos (Or.inl (by omega))]
        rw [e9]
        exact hK1 hc 1 _ hw hm (Or.inr rfl) (hL32.sel [0, 1, 2, 3, 4] rfl)
      · have c2 : ¬ (¬ (b : Int) = (0 : Int)) := c2
        refine f_il 0 rfl hL rfl ?_
        refine f_iln 4 rfl hL rfl ?_
        refine f_ic rfl (by decide) (by omega) (fun c3 => ?_) (fun c3 => ?_)
        · have c3 : (0 : Int) = (wv : Int) := c3
          refine f_s [fi (0)] rfl rfl ?_
          refine f_ist [(4, fi (0)), (5, fi (0)), (0, .ref 55), (1, fi (0)), (3, fi (wv))] rfl (by decide) hL rfl (fun L33 hL33 => ?_)
          refine f_inc 1 [(5, fi (1)), (4, fi (0)), (0, .ref 55), (1, fi (0)), (3, fi (wv))] rfl (by decide) hL33 rfl rfl (fun L34 hL34 => ?_)
          refine f_goto rfl ?_
          have e9 : sb0 m wv 0 b = 0 := by
            unfold sb0
            rw [if_pos (by omega), if_neg (fun z => z.elim (fun y => y (by omega)) (fun y => y.1 (by omega)))]
          rw [e9]
          exact hK1 hc 0 _ hw hm (Or.inl rfl) (hL34.sel [0, 1, 2, 3, 4] rfl)
        · have c3 : ¬ ((0 : Int) = (wv : Int)) := c3
          refine f_aln 2 rfl hL rfl ?_
          refine m_gfr so55 rfl hw rfl (by decide) ?_
          refine f_il 0 rfl hL rfl ?_
          refine m_ia sa56 (m 56 0) rfl hw hm (by omega) (by omega) (by decide) rfl ?_
          refine f_s [fi (1), fi (m 56 0)] rfl rfl ?_
          refine f_ic rfl (hR 56 0) (by decide) (fun c4 => ?_) (fun c4 => ?_)
          · have c4 : ¬ (m 56 0 : Int) = (1 : Int) := c4
            refine f_s [fi (0)] rfl rfl ?_
            refine f_ist [(4, fi (0)), (5, fi (0)), (0, .ref 55), (1, fi (0)), (3, fi (wv))] rfl (by decide) hL rfl (fun L35 hL35 => ?_)
            refine f_inc 1 [(5, fi (1)), (4, fi (0)), (0, .ref 55), (1, fi (0)), (3, fi (wv))] rfl (by decide) hL35 rfl rfl (fun L36 hL36 => ?_)
            refine f_goto rfl ?_
            have e9 : sb0 m wv 0 b = 0 := by
              unfold sb0
              rw [if_pos (by omega), if_neg (fun z => z.elim (fun y => y (by omega)) (fun y => c4 y.2.1))]
            rw [e9]
            exact hK1 hc 0 _ hw hm (Or.inl rfl) (hL36.sel [0, 1, 2, 3, 4] rfl)
          · have c4 : ¬ (¬ (m 56 0 : Int) = (1 : Int)) := c4
            refine f_aln 2 rfl hL rfl ?_
            refine f_iln 3 rfl hL rfl ?_
            refine f_il 0 rfl hL rfl ?_
            refine m_k1 (t47_0 hp (by decide)) hw hm rfl rfl rfl (m_ar so55 hw rfl) rfl (fun hc4 hw4 hm4 => ?_)
            refine f_if rfl (dw0_r m 0) (fun c5 => ?_) (fun c5 => ?_)
            · have c5 : (dw0 m 0 : Int) = (0 : Int) := c5
              refine f_s [fi (0)] rfl rfl ?_
              refine f_ist [(4, fi (0)), (5, fi (0)), (0, .ref 55), (1, fi (0)), (3, fi (wv))] rfl (by decide) hL rfl (fun L37 hL37 => ?_)
              refine f_inc 1 [(5, fi (1)), (4, fi (0)), (0, .ref 55), (1, fi (0)), (3, fi (wv))] rfl (by decide) hL37 rfl rfl (fun L38 hL38 => ?_)
              refine f_goto rfl ?_
              have e9 : sb0 m wv 0 b = 0 := by
                unfold sb0
                rw [if_pos (by omega), if_neg (fun z => z.elim (fun y => y (by omega)) (fun y => y.2.2 (by omega)))]
              rw [e9]
              exact hK1 hc4 0 _ hw4 hm4 (Or.inl rfl) (hL38.sel [0, 1, 2, 3, 4] rfl)
            · have c5 : ¬ ((dw0 m 0 : Int) = (0 : Int)) := c5
              refine f_s [fi (1)] rfl rfl ?_
              refine f_goto rfl ?_
              refine f_ist [(4, fi (1)), (5, fi (0)), (0, .ref 55), (1, fi (0)), (3, fi (wv))] rfl (by decide) hL rfl (fun L39 hL39 => ?_)
              refine f_inc 1 [(5, fi (1)), (4, fi (1)), (0, .ref 55), (1, fi (0)), (3, fi (wv))] rfl (by decide) hL39 rfl rfl (fun L40 hL40 => ?_)
              refine f_goto rfl ?_
              have e9 : sb0 m wv 0 b = 1 := by
                unfold sb0
                rw [if_pos (by omega), if_pos (Or.inr ⟨by omega, by first | exact c4 | (simpa using c4) | omega, by omega⟩)]
              rw [e9]
              exact hK1 hc4 1 _ hw4 hm4 (Or.inr rfl) (hL40.sel [0, 1, 2, 3, 4] rfl)
  refine f_aln 0 rfl hL rfl ?_
  refine m_gfr so55 rfl hw rfl (by decide) ?_
  refine f_bipush (n := 18) rfl (by decide) ?_
  refine f_iln 1 rfl hL rfl ?_
  refine f_imul rfl ?_
  refine b_eq (x := 0) (by decide) ?_
  refine f_iln 2 rfl hL rfl ?_
  refine f_iadd rfl ?_
  refine m_ia sa61 (wv) rfl hw hm (by omega) (by omega) (by decide) hv ?_
  refine f_istn [(3, fi (wv)), (0, .ref 55), (1, fi (0)), (2, fi (p))] rfl (by decide) hL rfl (fun L41 hL41 => ?_)
  refine f_iln 0 rfl hL41 rfl ?_
  refine f_bipush (n := -9) rfl (by decide) ?_
  refine f_ic rfl rwv (by decide) (fun d1 => ?_) (fun d1 => ?_)
  · have d1 : (wv : Int) = (-9 : Int) := d1
    refine f_iln 0 rfl hL41 rfl ?_
    refine f_bipush (n := -9) rfl (by decide) ?_
    refine f_ic rfl (by omega) (by omega) (fun _ => ?_) (fun c_9 => absurd (show (wv : Int) = (-9 : Int) from (by omega)) c_9)
    refine f_s [fi (0)] rfl rfl ?_
    exact f_ret2 rfl (Or.inl rfl) ⟨by unfold sbM0; rw [if_pos (by omega)], hw, hm⟩
  · have d1 : ¬ ((wv : Int) = (-9 : Int)) := d1
    refine f_aln 1 rfl hL41 rfl ?_
    refine m_gfr so55 rfl hw rfl (by decide) ?_
    refine f_iln 0 rfl hL41 rfl ?_
    refine m_ia sa56 (kv) rfl hw hm (by omega) (by omega) (by decide) hkv ?_
    refine f_s [fi (1), fi (kv)] rfl rfl ?_
    refine f_ic rfl rkv (by decide) (fun d2 => ?_) (fun d2 => ?_)
    · have d2 : (kv : Int) = (1 : Int) := d2
      refine f_s [fi (0)] rfl rfl ?_
      refine f_ist [(4, fi (0)), (3, fi (wv)), (0, .ref 55), (1, fi (0)), (2, fi (p))] rfl (by decide) hL41 rfl (fun L42 hL42 => ?_)
      refine f_s [fi (0)] rfl rfl ?_
      refine f_ist [(5, fi (0)), (4, fi (0)), (3, fi (wv)), (0, .ref 55), (1, fi (0)), (2, fi (p))] rfl (by decide) hL42 rfl (fun L43 hL43 => ?_)
      have e7 : sbM0 m wv = sb0 m wv 3 (sb0 m wv 2 (sb0 m wv 1 (sb0 m wv 0 (0)))) := by unfold sbM0; rw [if_neg (by omega), if_neg (by omega)]
      rw [e7]
      exact hK0 hc 0 _ hw hm (Or.inl rfl) (hL43.sel [0, 1, 3, 4, 2] rfl)
    · have d2 : ¬ ((kv : Int) = (1 : Int)) := d2
      refine f_iln 0 rfl hL41 rfl ?_
      refine f_bipush (n := -9) rfl (by decide) ?_
      refine f_ic rfl (by omega) (by omega) (fun c_9 => absurd (show (wv : Int) = (-9 : Int) from c_9) (by omega)) (fun _ => ?_)
      refine f_s [fi (1)] rfl rfl ?_
      refine f_goto rfl ?_
      exact f_ret2 rfl (Or.inr rfl) ⟨by unfold sbM0; rw [if_neg (by omega), if_pos (by omega)], hw, hm⟩)
def sb18 (m : Nat → Nat → Int) (x : Int) (k : Int) (a : Int) : Int := if k < m 55 0 then (if ¬ a = 0 ∨ (¬ k = x ∧ m 56 k.toNat = 1 ∧ ¬ dw18 m k = 0) then 1 else 0) else a
def sbM18 (m : Nat → Nat → Int) (x : Int) : Int := if x = -9 then 0 else if ¬ m 56 x.toNat = 1 then 1 else sb18 m x 3 (sb18 m x 2 (sb18 m x 1 (sb18 m x 0 0)))
theorem sb18_01 {m : Nat → Nat → Int} {x k a : Int} (h : a = 0 ∨ a = 1) : sb18 m x k a = 0 ∨ sb18 m x k a = 1 := by
  unfold sb18
  split
  · split
    · exact Or.inr rfl
    · exact Or.inl rfl
  · exact h
theorem sbM18_01 (m : Nat → Nat → Int) (x : Int) : sbM18 m x = 0 ∨ sbM18 m x = 1 := by
  unfold sbM18
  split
  · exact Or.inl rfl
  · split
    · exact Or.inr rfl
    · exact sb18_01 (sb18_01 (sb18_01 (sb18_01 (Or.inl rfl))))
theorem t62_1 {m : Nat → Nat → Int} (hn : 0 ≤ m 55 0 ∧ m 55 0 ≤ 4) (hp : 0 ≤ m 55 1 ∧ m 55 1 ≤ 5) {p : Int} (p1 : 0 ≤ p) (p2 : p < 5) {wv kv : Int} (hv : m 61 (18 + p).toNat = wv) (rwv : -2147483648 ≤ wv ∧ wv ≤ 2147483647) (jv : wv = -9 ∨ (0 ≤ wv ∧ wv < 4)) (hkv : m 56 (wv).toNat = kv) (rkv : -2147483648 ≤ kv ∧ kv ≤ 2147483647) : h_M 62 [.ref 55, fi (1), fi (p)] m (some (fi (sbM18 m wv))) m := h_M_of (R := ev_r62) rfl (fun hc hw hm => by
  have hL : f_L (lv_args 0 [.ref 55, fi (1), fi (p)]) [(0, .ref 55), (1, fi (1)), (2, fi (p))] := f_L_of rfl
  generalize lv_args 0 [.ref 55, fi (1), fi (p)] = L at hL
  show x_W none (2, 0, 6, 2, 11, 1, 24, 0, 0, ev_t62) 0 L [] hc 0 0 _
  have hR := gi_R hm
  have hK4 : ∀ (hc : ev_H) (b : Int) (L : ev_L), y_in yGw hc → gi hc = m → (b = 0 ∨ b = 1) → f_L L [(5, fi (4)), (4, fi (b)), (0, .ref 55), (1, fi (1)), (3, fi (wv))] → x_W none (2, 0, 6, 2, 11, 1, 24, 0, 0, ev_t62) 46 L [] hc 0 0 (fun r' h' => r' = some (fi (b)) ∧ y_in yGw h' ∧ gi h' = m) := fun hc b L hw hm rb hL => by
    refine f_il 0 rfl hL rfl ?_
    refine f_aln 2 rfl hL rfl ?_
    refine m_gfi so55 (m 55 0) rfl hw hm rfl rfl ?_
    refine f_ic rfl (by omega) (by omega) (fun _ => ?_) (fun c_9 => absurd (show (m 55 0 : Int) ≤ (4 : Int) from (by omega)) c_9)
    refine f_il 1 rfl hL rfl ?_
    exact f_ret2 rfl rb ⟨rfl, hw, hm⟩
  have hK3 : ∀ (hc : ev_H) (b : Int) (L : ev_L), y_in yGw hc → gi hc = m → (b = 0 ∨ b = 1) → f_L L [(5, fi (3)), (4, fi (b)), (0, .ref 55), (1, fi (1)), (3, fi (wv))] → x_W none (2, 0, 6, 2, 11, 1, 24, 0, 0, ev_t62) 46 L [] hc 0 0 (fun r' h' => r' = some (fi (sb18 m wv 3 (b))) ∧ y_in yGw h' ∧ gi h' = m) := fun hc b L hw hm rb hL => by
    refine f_il 0 rfl hL rfl ?_
    refine f_aln 2 rfl hL rfl ?_
    refine m_gfi so55 (m 55 0) rfl hw hm rfl rfl ?_
    refine f_ic rfl (by decide) (by omega) (fun c1 => ?_) (fun c1 => ?_)
    · have c1 : (m 55 0 : Int) ≤ (3 : Int) := c1
      have e8 : sb18 m wv 3 (b) = b := by unfold sb18; rw [if_neg (by omega)]
      rw [e8]
      refine f_il 1 rfl hL rfl ?_
      exact f_ret2 rfl rb ⟨rfl, hw, hm⟩
    · have c1 : ¬ ((m 55 0 : Int) ≤ (3 : Int)) := c1
      refine f_il 1 rfl hL rfl ?_
      refine f_if rfl (by omega) (fun c2 => ?_) (fun c2 => ?_)
      · have c2 : ¬ (b : Int) = (0 : Int) := c2
        refine f_s [fi (1)] rfl rfl ?_
        refine f_goto rfl ?_
        refine f_ist [(4, fi (1)), (5, fi (3)), (0, .ref 55), (1, fi (1)), (3, fi (wv))] rfl (by decide) hL rfl (fun L1 hL1 => ?_)
        refine f_inc 1 [(5, fi (4)), (4, fi (1)), (0, .ref 55), (1, fi (1)), (3, fi (wv))] rfl (by decide) hL1 rfl rfl (fun L2 hL2 => ?_)
        refine f_goto rfl ?_
        have e9 : sb18 m wv 3 b = 1 := by
          unfold sb18
          rw [if_pos (by omega), if_pos (Or.inl (by omega))]
        rw [e9]
        exact hK4 hc 1 _ hw hm (Or.inr rfl) (hL2.sel [0, 1, 2, 3, 4] rfl)
      · have c2 : ¬ (¬ (b : Int) = (0 : Int)) := c2
        refine f_il 0 rfl hL rfl ?_
        refine f_iln 4 rfl hL rfl ?_
        refine f_ic rfl (by decide) (by omega) (fun c3 => ?_) (fun c3 => ?_)
        · have c3 : (3 : Int) = (wv : Int) := c3
          refine f_s [fi (0)] rfl rfl ?_
          refine f_ist [(4, fi (0)), (5, fi (3)), (0, .ref 55), (1, fi (1)), (3, fi (wv))] rfl (by decide) hL rfl (fun L3 hL3 => ?_)
          refine f_inc 1 [(5, fi (4)), (4, fi (0)), (0, .ref 55), (1, fi (1)), (3, fi (wv))] rfl (by decide) hL3 rfl rfl (fun L4 hL4 => ?_)
          refine f_goto rfl ?_
          have e9 : sb18 m wv 3 b = 0 := by
            unfold sb18
            rw [if_pos (by omega), if_neg (fun z => z.elim (fun y => y (by omega)) (fun y => y.1 (by omega)))]
          rw [e9]
          exact hK4 hc 0 _ hw hm (Or.inl rfl) (hL4.sel [0, 1, 2, 3, 4] rfl)
        · have c3 : ¬ ((3 : Int) = (wv : Int)) := c3
          refine f_aln 2 rfl hL rfl ?_
          refine m_gfr so55 rfl hw rfl (by decide) ?_
          refine f_il 0 rfl hL rfl ?_
          refine m_ia sa56 (m 56 3) rfl hw hm (by omega) (by omega) (by decide) rfl ?_
          refine f_s [fi (1), fi (m 56 3)] rfl rfl ?_
          refine f_ic rfl (hR 56 3) (by decide) (fun c4 => ?_) (fun c4 => ?_)
          · have c4 : ¬ (m 56 3 : Int) = (1 : Int) := c4
            refine f_s [fi (0)] rfl rfl ?_
            refine f_ist [(4, fi (0)), (5, fi (3)), (0, .ref 55), (1, fi (1)), (3, fi (wv))] rfl (by decide) hL rfl (fun L5 hL5 => ?_)
            refine f_inc 1 [(5, fi (4)), (4, fi (0)), (0, .ref 55), (1, fi (1)), (3, fi (wv))] rfl (by decide) hL5 rfl rfl (fun L6 hL6 => ?_)
            refine f_goto rfl ?_
            have e9 : sb18 m wv 3 b = 0 := by
              unfold sb18
              rw [if_pos (by omega), if_neg (fun z => z.elim (fun y => y (by omega)) (fun y => c4 y.2.1))]
            rw [e9]
            exact hK4 hc 0 _ hw hm (Or.inl rfl) (hL6.sel [0, 1, 2, 3, 4] rfl)
          · have c4 : ¬ (¬ (m 56 3 : Int) = (1 : Int)) := c4
            refine f_aln 2 rfl hL rfl ?_
            refine f_iln 3 rfl hL rfl ?_
            refine f_il 0 rfl hL rfl ?_
            refine m_k1 (t47_1 hp (by decide)) hw hm rfl rfl rfl (m_ar so55 hw rfl) rfl (fun hc1 hw1 hm1 => ?_)
            refine f_if rfl (dw18_r m 3) (fun c5 => ?_) (fun c5 => ?_)
            · have c5 : (dw18 m 3 : Int) = (0 : Int) := c5
              refine f_s [fi (0)] rfl rfl ?_
              refine f_ist [(4, fi (0)), (5, fi (3)), (0, .ref 55), (1, fi (1)), (3, fi (wv))] rfl (by decide) hL rfl (fun L7 hL7 => ?_)
              refine f_inc 1 [(5, fi (4)), (4, fi (0)), (0, .ref 55), (1, fi (1)), (3, fi (wv))] rfl (by decide) hL7 rfl rfl (fun L8 hL8 => ?_)
              refine f_goto rfl ?_
              have e9 : sb18 m wv 3 b = 0 := by
                unfold sb18
                rw [if_pos (by omega), if_neg (fun z => z.elim (fun y => y (by omega)) (fun y => y.2.2 (by omega)))]
              rw [e9]
              exact hK4 hc1 0 _ hw1 hm1 (Or.inl rfl) (hL8.sel [0, 1, 2, 3, 4] rfl)
            · have c5 : ¬ ((dw18 m 3 : Int) = (0 : Int)) := c5
              refine f_s [fi (1)] rfl rfl ?_
              refine f_goto rfl ?_
              refine f_ist [(4, fi (1)), (5, fi (3)), (0, .ref 55), (1, fi (1)), (3, fi (wv))] rfl (by decide) hL rfl (fun L9 hL9 => ?_)
              refine f_inc 1 [(5, fi (4)), (4, fi (1)), (0, .ref 55), (1, fi (1)), (3, fi (wv))] rfl (by decide) hL9 rfl rfl (fun L10 hL10 => ?_)
              refine f_goto rfl ?_
              have e9 : sb18 m wv 3 b = 1 := by
                unfold sb18
                rw [if_pos (by omega), if_pos (Or.inr ⟨by omega, by first | exact c4 | (simpa using c4) | omega, by omega⟩)]
              rw [e9]
              exact hK4 hc1 1 _ hw1 hm1 (Or.inr rfl) (hL10.sel [0, 1, 2, 3, 4] rfl)
  have hK2 : ∀ (hc : ev_H) (b : Int) (L : ev_L), y_in yGw hc → gi hc = m → (b = 0 ∨ b = 1) → f_L L [(5, fi (2)), (4, fi (b)), (0, .ref 55), (1, fi (1)), (3, fi (wv))] → x_W none (2, 0, 6, 2, 11, 1, 24, 0, 0, ev_t62) 46 L [] hc 0 0 (fun r' h' => r' = some (fi (sb18 m wv 3 (sb18 m wv 2 (b)))) ∧ y_in yGw h' ∧ gi h' = m) := fun hc b L hw hm rb hL => by
    refine f_il 0 rfl hL rfl ?_
    refine f_aln 2 rfl hL rfl ?_
    refine m_gfi so55 (m 55 0) rfl hw hm rfl rfl ?_
    refine f_ic rfl (by decide) (by omega) (fun c1 => ?_) (fun c1 => ?_)
    · have c1 : (m 55 0 : Int) ≤ (2 : Int) := c1
      have e8 : sb18 m wv 3 (sb18 m wv 2 (b)) = b := by unfold sb18; rw [if_neg (by omega), if_neg (by omega)]
      rw [e8]
      refine f_il 1 rfl hL rfl ?_
      exact f_ret2 rfl rb ⟨rfl, hw, hm⟩
    · have c1 : ¬ ((m 55 0 : Int) ≤ (2 : Int)) := c1
      refine f_il 1 rfl hL rfl ?_
      refine f_if rfl (by omega) (fun c2 => ?_) (fun c2 => ?_)
      · have c2 : ¬ (b : Int) = (0 : Int) := c2
        refine f_s [fi (1)] rfl rfl ?_
        refine f_goto rfl ?_
        refine f_ist [(4, fi (1)), (5, fi (2)), (0, .ref 55), (1, fi (1)), (3, fi (wv))] rfl (by decide) hL rfl (fun L11 hL11 => ?_)
        refine f_inc 1 [(5, fi (3)), (4, fi (1)), (0, .ref 55), (1, fi (1)), (3, fi (wv))] rfl (by decide) hL11 rfl rfl (fun L12 hL12 => ?_)
        refine f_goto rfl ?_
        have e9 : sb18 m wv 2 b = 1 := by
          unfold sb18
          rw [if_pos (by omega), if_pos (Or.inl (by omega))]
        rw [e9]
        exact hK3 hc 1 _ hw hm (Or.inr rfl) (hL12.sel [0, 1, 2, 3, 4] rfl)
      · have c2 : ¬ (¬ (b : Int) = (0 : Int)) := c2
        refine f_il 0 rfl hL rfl ?_
        refine f_iln 4 rfl hL rfl ?_
        refine f_ic rfl (by decide) (by omega) (fun c3 => ?_) (fun c3 => ?_)
        · have c3 : (2 : Int) = (wv : Int) := c3
          refine f_s [fi (0)] rfl rfl ?_
          refine f_ist [(4, fi (0)), (5, fi (2)), (0, .ref 55), (1, fi (1)), (3, fi (wv))] rfl (by decide) hL rfl (fun L13 hL13 => ?_)
          refine f_inc 1 [(5, fi (3)), (4, fi (0)), (0, .ref 55), (1, fi (1)), (3, fi (wv))] rfl (by decide) hL13 rfl rfl (fun L14 hL14 => ?_)
          refine f_goto rfl ?_
          have e9 : sb18 m wv 2 b = 0 := by
            unfold sb18
            rw [if_pos (by omega), if_neg (fun z => z.elim (fun y => y (by omega)) (fun y => y.1 (by omega)))]
          rw [e9]
          exact hK3 hc 0 _ hw hm (Or.inl rfl) (hL14.sel [0, 1, 2, 3, 4] rfl)
        · have c3 : ¬ ((2 : Int) = (wv : Int)) := c3
          refine f_aln 2 rfl hL rfl ?_
          refine m_gfr so55 rfl hw rfl (by decide) ?_
          refine f_il 0 rfl hL rfl ?_
          refine m_ia sa56 (m 56 2) rfl hw hm (by omega) (by omega) (by decide) rfl ?_
          refine f_s [fi (1), fi (m 56 2)] rfl rfl ?_
          refine f_ic rfl (hR 56 2) (by decide) (fun c4 => ?_) (fun c4 => ?_)
          · have c4 : ¬ (m 56 2 : Int) = (1 : Int) := c4
            refine f_s [fi (0)] rfl rfl ?_
            refine f_ist [(4, fi (0)), (5, fi (2)), (0, .ref 55), (1, fi (1)), (3, fi (wv))] rfl (by decide) hL rfl (fun L15 hL15 => ?_)
            refine f_inc 1 [(5, fi (3)), (4, fi (0)), (0, .ref 55), (1, fi (1)), (3, fi (wv))] rfl (by decide) hL15 rfl rfl (fun L16 hL16 => ?_)
            refine f_goto rfl ?_
            have e9 : sb18 m wv 2 b = 0 := by
              unfold sb18
              rw [if_pos (by omega), if_neg (fun z => z.elim (fun y => y (by omega)) (fun y => c4 y.2.1))]
            rw [e9]
            exact hK3 hc 0 _ hw hm (Or.inl rfl) (hL16.sel [0, 1, 2, 3, 4] rfl)
          · have c4 : ¬ (¬ (m 56 2 : Int) = (1 : Int)) := c4
            refine f_aln 2 rfl hL rfl ?_
            refine f_iln 3 rfl hL rfl ?_
            refine f_il 0 rfl hL rfl ?_
            refine m_k1 (t47_1 hp (by decide)) hw hm rfl rfl rfl (m_ar so55 hw rfl) rfl (fun hc2 hw2 hm2 => ?_)
            refine f_if rfl (dw18_r m 2) (fun c5 => ?_) (fun c5 => ?_)
            · have c5 : (dw18 m 2 : Int) = (0 : Int) := c5
              refine f_s [fi (0)] rfl rfl ?_
              refine f_ist [(4, fi (0)), (5, fi (2)), (0, .ref 55), (1, fi (1)), (3, fi (wv))] rfl (by decide) hL rfl (fun L17 hL17 => ?_)
              refine f_inc 1 [(5, fi (3)), (4, fi (0)), (0, .ref 55), (1, fi (1)), (3, fi (wv))] rfl (by decide) hL17 rfl rfl (fun L18 hL18 => ?_)
              refine f_goto rfl ?_
              have e9 : sb18 m wv 2 b = 0 := by
                unfold sb18
                rw [if_pos (by omega), if_neg (fun z => z.elim (fun y => y (by omega)) (fun y => y.2.2 (by omega)))]
              rw [e9]
              exact hK3 hc2 0 _ hw2 hm2 (Or.inl rfl) (hL18.sel [0, 1, 2, 3, 4] rfl)
            · have c5 : ¬ ((dw18 m 2 : Int) = (0 : Int)) := c5
              refine f_s [fi (1)] rfl rfl ?_
              refine f_goto rfl ?_
              refine f_ist [(4, fi (1)), (5, fi (2)), (0, .ref 55), (1, fi (1)), (3, fi (wv))] rfl (by decide) hL rfl (fun L19 hL19 => ?_)
              refine f_inc 1 [(5, fi (3)), (4, fi (1)), (0, .ref 55), (1, fi (1)), (3, fi (wv))] rfl (by decide) hL19 rfl rfl (fun L20 hL20 => ?_)
              refine f_goto rfl ?_
              have e9 : sb18 m wv 2 b = 1 := by
                unfold sb18
                rw [if_pos (by omega), if_pos (Or.inr ⟨by omega, by first | exact c4 | (simpa using c4) | omega, by omega⟩)]
              rw [e9]
              exact hK3 hc2 1 _ hw2 hm2 (Or.inr rfl) (hL20.sel [0, 1, 2, 3, 4] rfl)
  have hK1 : ∀ (hc : ev_H) (b : Int) (L : ev_L), y_in yGw hc → gi hc = m → (b = 0 ∨ b = 1) → f_L L [(5, fi (1)), (4, fi (b)), (0, .ref 55), (1, fi (1)), (3, fi (wv))] → x_W none (2, 0, 6, 2, 11, 1, 24, 0, 0, ev_t62) 46 L [] hc 0 0 (fun r' h' => r' = some (fi (sb18 m wv 3 (sb18 m wv 2 (sb18 m wv 1 (b))))) ∧ y_in yGw h' ∧ gi h' = m) := fun hc b L hw hm rb hL => by
    refine f_il 0 rfl hL rfl ?_
    refine f_aln 2 rfl hL rfl ?_
    refine m_gfi so55 (m 55 0) rfl hw hm rfl rfl ?_
    refine f_ic rfl (by decide) (by omega) (fun c1 => ?_) (fun c1 => ?_)
    · have c1 : (m 55 0 : Int) ≤ (1 : Int) := c1
      have e8 : sb18 m wv 3 (sb18 m wv 2 (sb18 m wv 1 (b))) = b := by unfold sb18; rw [if_neg (by omega), if_neg (by omega), if_neg (by omega)]
      rw [e8]
      refine f_il 1 rfl hL rfl ?_
      exact f_ret2 rfl rb ⟨rfl, hw, hm⟩
    · have c1 : ¬ ((m 55 0 : Int) ≤ (1 : Int)) := c1
      refine f_il 1 rfl hL rfl ?_
      refine f_if rfl (by omega) (fun c2 => ?_) (fun c2 => ?_)
      · have c2 : ¬ (b : Int) = (0 : Int) := c2
        refine f_s [fi (1)] rfl rfl ?_
        refine f_goto rfl ?_
        refine f_ist [(4, fi (1)), (5, fi (1)), (0, .ref 55), (1, fi (1)), (3, fi (wv))] rfl (by decide) hL rfl (fun L21 hL21 => ?_)
        refine f_inc 1 [(5, fi (2)), (4, fi (1)), (0, .ref 55), (1, fi (1)), (3, fi (wv))] rfl (by decide) hL21 rfl rfl (fun L22 hL22 => ?_)
        refine f_goto rfl ?_
        have e9 : sb18 m wv 1 b = 1 := by
          unfold sb18
          rw [if_pos (by omega), if_pos (Or.inl (by omega))]
        rw [e9]
        exact hK2 hc 1 _ hw hm (Or.inr rfl) (hL22.sel [0, 1, 2, 3, 4] rfl)
      · have c2 : ¬ (¬ (b : Int) = (0 : Int)) := c2
        refine f_il 0 rfl hL rfl ?_
        refine f_iln 4 rfl hL rfl ?_
        refine f_ic rfl (by decide) (by omega) (fun c3 => ?_) (fun c3 => ?_)
        · have c3 : (1 : Int) = (wv : Int) := c3
          refine f_s [fi (0)] rfl rfl ?_
          refine f_ist [(4, fi (0)), (5, fi (1)), (0, .ref 55), (1, fi (1)), (3, fi (wv))] rfl (by decide) hL rfl (fun L23 hL23 => ?_)
          refine f_inc 1 [(5, fi (2)), (4, fi (0)), (0, .ref 55), (1, fi (1)), (3, fi (wv))] rfl (by decide) hL23 rfl rfl (fun L24 hL24 => ?_)
          refine f_goto rfl ?_
          have e9 : sb18 m wv 1 b = 0 := by
            unfold sb18
            rw [if_pos (by omega), if_neg (fun z => z.elim (fun y => y (by omega)) (fun y => y.1 (by omega)))]
          rw [e9]
          exact hK2 hc 0 _ hw hm (Or.inl rfl) (hL24.sel [0, 1, 2, 3, 4] rfl)
        · have c3 : ¬ ((1 : Int) = (wv : Int)) := c3
          refine f_aln 2 rfl hL rfl ?_
          refine m_gfr so55 rfl hw rfl (by decide) ?_
          refine f_il 0 rfl hL rfl ?_
          refine m_ia sa56 (m 56 1) rfl hw hm (by omega) (by omega) (by decide) rfl ?_
          refine f_s [fi (1), fi (m 56 1)] rfl rfl ?_
          refine f_ic rfl (hR 56 1) (by decide) (fun c4 => ?_) (fun c4 => ?_)
          · have c4 : ¬ (m 56 1 : Int) = (1 : Int) := c4
            refine f_s [fi (0)] rfl rfl ?_
            refine f_ist [(4, fi (0)), (5, fi (1)), (0, .ref 55), (1, fi (1)), (3, fi (wv))] rfl (by decide) hL rfl (fun L25 hL25 => ?_)
            refine f_inc 1 [(5, fi (2)), (4, fi (0)), (0, .ref 55), (1, fi (1)), (3, fi (wv))] rfl (by decide) hL25 rfl rfl (fun L26 hL26 => ?_)
            refine f_goto rfl ?_
            have e9 : sb18 m wv 1 b = 0 := by
              unfold sb18
              rw [if_pos (by omega), if_neg (fun z => z.elim (fun y => y (by omega)) (fun y => c4 y.2.1))]
            rw [e9]
            exact hK2 hc 0 _ hw hm (Or.inl rfl) (hL26.sel [0, 1, 2, 3, 4] rfl)
          · have c4 : ¬ (¬ (m 56 1 : Int) = (1 : Int)) := c4
            refine f_aln 2 rfl hL rfl ?_
            refine f_iln 3 rfl hL rfl ?_
            refine f_il 0 rfl hL rfl ?_
            refine m_k1 (t47_1 hp (by decide)) hw hm rfl rfl rfl (m_ar so55 hw rfl) rfl (fun hc3 hw3 hm3 => ?_)
            refine f_if rfl (dw18_r m 1) (fun c5 => ?_) (fun c5 => ?_)
            · have c5 : (dw18 m 1 : Int) = (0 : Int) := c5
              refine f_s [fi (0)] rfl rfl ?_
              refine f_ist [(4, fi (0)), (5, fi (1)), (0, .ref 55), (1, fi (1)), (3, fi (wv))] rfl (by decide) hL rfl (fun L27 hL27 => ?_)
              refine f_inc 1 [(5, fi (2)), (4, fi (0)), (0, .ref 55), (1, fi (1)), (3, fi (wv))] rfl (by decide) hL27 rfl rfl (fun L28 hL28 => ?_)
              refine f_goto rfl ?_
              have e9 : sb18 m wv 1 b = 0 := by
                unfold sb18
                rw [if_pos (by omega), if_neg (fun z => z.elim (fun y => y (by omega)) (fun y => y.2.2 (by omega)))]
              rw [e9]
              exact hK2 hc3 0 _ hw3 hm3 (Or.inl rfl) (hL28.sel [0, 1, 2, 3, 4] rfl)
            · have c5 : ¬ ((dw18 m 1 : Int) = (0 : Int)) := c5
              refine f_s [fi (1)] rfl rfl ?_
              refine f_goto rfl ?_
              refine f_ist [(4, fi (1)), (5, fi (1)), (0, .ref 55), (1, fi (1)), (3, fi (wv))] rfl (by decide) hL rfl (fun L29 hL29 => ?_)
              refine f_inc 1 [(5, fi (2)), (4, fi (1)), (0, .ref 55), (1, fi (1)), (3, fi (wv))] rfl (by decide) hL29 rfl rfl (fun L30 hL30 => ?_)
              refine f_goto rfl ?_
              have e9 : sb18 m wv 1 b = 1 := by
                unfold sb18
                rw [if_pos (by omega), if_pos (Or.inr ⟨by omega, by first | exact c4 | (simpa using c4) | omega, by omega⟩)]
              rw [e9]
              exact hK2 hc3 1 _ hw3 hm3 (Or.inr rfl) (hL30.sel [0, 1, 2, 3, 4] rfl)
  have hK0 : ∀ (hc : ev_H) (b : Int) (L : ev_L), y_in yGw hc → gi hc = m → (b = 0 ∨ b = 1) → f_L L [(5, fi (0)), (4, fi (b)), (0, .ref 55), (1, fi (1)), (3, fi (wv))] → x_W none (2, 0, 6, 2, 11, 1, 24, 0, 0, ev_t62) 46 L [] hc 0 0 (fun r' h' => r' = some (fi (sb18 m wv 3 (sb18 m wv 2 (sb18 m wv 1 (sb18 m wv 0 (b)))))) ∧ y_in yGw h' ∧ gi h' = m) := fun hc b L hw hm rb hL => by
    refine f_il 0 rfl hL rfl ?_
    refine f_aln 2 rfl hL rfl ?_
    refine m_gfi so55 (m 55 0) rfl hw hm rfl rfl ?_
    refine f_ic rfl (by decide) (by omega) (fun c1 => ?_) (fun c1 => ?_)
    · have c1 : (m 55 0 : Int) ≤ (0 : Int) := c1
      have e8 : sb18 m wv 3 (sb18 m wv 2 (sb18 m wv 1 (sb18 m wv 0 (b)))) = b := by unfold sb18; rw [if_neg (by omega), if_neg (by omega), if_neg (by omega), if_neg (by omega)]
      rw [e8]
      refine f_il 1 rfl hL rfl ?_
      exact f_ret2 rfl rb ⟨rfl, hw, hm⟩
    · have c1 : ¬ ((m 55 0 : Int) ≤ (0 : Int)) := c1
      refine f_il 1 rfl hL rfl ?_
      refine f_if rfl (by omega) (fun c2 => ?_) (fun c2 => ?_)
      · have c2 : ¬ (b : Int) = (0 : Int) := c2
        refine f_s [fi (1)] rfl rfl ?_
        refine f_goto rfl ?_
        refine f_ist [(4, fi (1)), (5, fi (0)), (0, .ref 55), (1, fi (1)), (3, fi (wv))] rfl (by decide) hL rfl (fun L31 hL31 => ?_)
        refine f_inc 1 [(5, fi (1)), (4, fi (1)), (0, .ref 55), (1, fi (1)), (3, fi (wv))] rfl (by decide) hL31 rfl rfl (fun L32 hL32 => ?_)
        refine f_goto rfl ?_
        have e9 : sb18 m wv 0 b = 1 := by
          unfold sb18
          rw [if_pos (by omega), if_pos (Or.inl (by omega))]
        rw [e9]
        exact hK1 hc 1 _ hw hm (Or.inr rfl) (hL32.sel [0, 1, 2, 3, 4] rfl)
      · have c2 : ¬ (¬ (b : Int) = (0 : Int)) := c2
        refine f_il 0 rfl hL rfl ?_
        refine f_iln 4 rfl hL rfl ?_
        refine f_ic rfl (by decide) (by omega) (fun c3 => ?_) (fun c3 => ?_)
        · have c3 : (0 : Int) = (wv : Int) := c3
          refine f_s [fi (0)] rfl rfl ?_
          refine f_ist [(4, fi (0)), (5, fi (0)), (0, .ref 55), (1, fi (1)), (3, fi (wv))] rfl (by decide) hL rfl (fun L33 hL33 => ?_)
          refine f_inc 1 [(5, fi (1)), (4, fi (0)), (0, .ref 55), (1, fi (1)), (3, fi (wv))] rfl (by decide) hL33 rfl rfl (fun L34 hL34 => ?_)
          refine f_goto rfl ?_
          have e9 : sb18 m wv 0 b = 0 := by
            unfold sb18
            rw [if_pos (by omega), if_neg (fun z => z.elim (fun y => y (by omega)) (fun y => y.1 (by omega)))]
          rw [e9]
          exact hK1 hc 0 _ hw hm (Or.inl rfl) (hL34.sel [0, 1, 2, 3, 4] rfl)
        · have c3 : ¬ ((0 : Int) = (wv : Int)) := c3
          refine f_aln 2 rfl hL rfl ?_
          refine m_gfr so55 rfl hw rfl (by decide) ?_
          refine f_il 0 rfl hL rfl ?_
          refine m_ia sa56 (m 56 0) rfl hw hm (by omega) (by omega) (by decide) rfl ?_
          refine f_s [fi (1), fi (m 56 0)] rfl rfl ?_
          refine f_ic rfl (hR 56 0) (by decide) (fun c4 => ?_) (fun c4 => ?_)
          · have c4 : ¬ (m 56 0 : Int) = (1 : Int) := c4
            refine f_s [fi (0)] rfl rfl ?_
            refine f_ist [(4, fi (0)), (5, fi (0)), (0, .ref 55), (1, fi (1)), (3, fi (wv))] rfl (by decide) hL rfl (fun L35 hL35 => ?_)
            refine f_inc 1 [(5, fi (1)), (4, fi (0)), (0, .ref 55), (1, fi (1)), (3, fi (wv))] rfl (by decide) hL35 rfl rfl (fun L36 hL36 => ?_)
            refine f_goto rfl ?_
            have e9 : sb18 m wv 0 b = 0 := by
              unfold sb18
              rw [if_pos (by omega), if_neg (fun z => z.elim (fun y => y (by omega)) (fun y => c4 y.2.1))]
            rw [e9]
            exact hK1 hc 0 _ hw hm (Or.inl rfl) (hL36.sel [0, 1, 2, 3, 4] rfl)
          · have c4 : ¬ (¬ (m 56 0 : Int) = (1 : Int)) := c4
            refine f_aln 2 rfl hL rfl ?_
            refine f_iln 3 rfl hL rfl ?_
            refine f_il 0 rfl hL rfl ?_
            refine m_k1 (t47_1 hp (by decide)) hw hm rfl rfl rfl (m_ar so55 hw rfl) rfl (fun hc4 hw4 hm4 => ?_)
            refine f_if rfl (dw18_r m 0) (fun c5 => ?_) (fun c5 => ?_)
            · have c5 : (dw18 m 0 : Int) = (0 : Int) := c5
              refine f_s [fi (0)] rfl rfl ?_
              refine f_ist [(4, fi (0)), (5, fi (0)), (0, .ref 55), (1, fi (1)), (3, fi (wv))] rfl (by decide) hL rfl (fun L37 hL37 => ?_)
              refine f_inc 1 [(5, fi (1)), (4, fi (0)), (0, .ref 55), (1, fi (1)), (3, fi (wv))] rfl (by decide) hL37 rfl rfl (fun L38 hL38 => ?_)
              refine f_goto rfl ?_
              have e9 : sb18 m wv 0 b = 0 := by
                unfold sb18
                rw [if_pos (by omega), if_neg (fun z => z.elim (fun y => y (by omega)) (fun y => y.2.2 (by omega)))]
              rw [e9]
              exact hK1 hc4 0 _ hw4 hm4 (Or.inl rfl) (hL38.sel [0, 1, 2, 3, 4] rfl)
            · have c5 : ¬ ((dw18 m 0 : Int) = (0 : Int)) := c5
              refine f_s [fi (1)] rfl rfl ?_
              refine f_goto rfl ?_
              refine f_ist [(4, fi (1)), (5, fi (0)), (0, .ref 55), (1, fi (1)), (3, fi (wv))] rfl (by decide) hL rfl (fun L39 hL39 => ?_)
              refine f_inc 1 [(5, fi (1)), (4, fi (1)), (0, .ref 55), (1, fi (1)), (3, fi (wv))] rfl (by decide) hL39 rfl rfl (fun L40 hL40 => ?_)
              refine f_goto rfl ?_
              have e9 : sb18 m wv 0 b = 1 := by
                unfold sb18
                rw [if_pos (by omega), if_pos (Or.inr ⟨by omega, by first | exact c4 | (simpa using c4) | omega, by omega⟩)]
              rw [e9]
              exact hK1 hc4 1 _ hw4 hm4 (Or.inr rfl) (hL40.sel [0, 1, 2, 3, 4] rfl)
  refine f_aln 0 rfl hL rfl ?_
  refine m_gfr so55 rfl hw rfl (by decide) ?_
  refine f_bipush (n := 18) rfl (by decide) ?_
  refine f_iln 1 rfl hL rfl ?_
  refine f_imul rfl ?_
  refine b_eq (x := 18) (by decide) ?_
  refine f_iln 2 rfl hL rfl ?_
  refine f_iadd rfl ?_
  refine m_ia sa61 (wv) rfl hw hm (by omega) (by omega) (by decide) hv ?_
  refine f_istn [(3, fi (wv)), (0, .ref 55), (1, fi (1)), (2, fi (p))] rfl (by decide) hL rfl (fun L41 hL41 => ?_)
  refine f_iln 0 rfl hL41 rfl ?_
  refine f_bipush (n := -9) rfl (by decide) ?_
  refine f_ic rfl rwv (by decide) (fun d1 => ?_) (fun d1 => ?_)
  · have d1 : (wv : Int) = (-9 : Int) := d1
    refine f_iln 0 rfl hL41 rfl ?_
    refine f_bipush (n := -9) rfl (by decide) ?_
    refine f_ic rfl (by omega) (by omega) (fun _ => ?_) (fun c_9 => absurd (show (wv : Int) = (-9 : Int) from (by omega)) c_9)
    refine f_s [fi (0)] rfl rfl ?_
    exact f_ret2 rfl (Or.inl rfl) ⟨by unfold sbM18; rw [if_pos (by omega)], hw, hm⟩
  · have d1 : ¬ ((wv : Int) = (-9 : Int)) := d1
    refine f_aln 1 rfl hL41 rfl ?_
    refine m_gfr so55 rfl hw rfl (by decide) ?_
    refine f_iln 0 rfl hL41 rfl ?_
    refine m_ia sa56 (kv) rfl hw hm (by omega) (by omega) (by decide) hkv ?_
    refine f_s [fi (1), fi (kv)] rfl rfl ?_
    refine f_ic rfl rkv (by decide) (fun d2 => ?_) (fun d2 => ?_)
    · have d2 : (kv : Int) = (1 : Int) := d2
      refine f_s [fi (0)] rfl rfl ?_
      refine f_ist [(4, fi (0)), (3, fi (wv)), (0, .ref 55), (1, fi (1)), (2, fi (p))] rfl (by decide) hL41 rfl (fun L42 hL42 => ?_)
      refine f_s [fi (0)] rfl rfl ?_
      refine f_ist [(5, fi (0)), (4, fi (0)), (3, fi (wv)), (0, .ref 55), (1, fi (1)), (2, fi (p))] rfl (by decide) hL42 rfl (fun L43 hL43 => ?_)
      have e7 : sbM18 m wv = sb18 m wv 3 (sb18 m wv 2 (sb18 m wv 1 (sb18 m wv 0 (0)))) := by unfold sbM18; rw [if_neg (by omega), if_neg (by omega)]
      rw [e7]
      exact hK0 hc 0 _ hw hm (Or.inl rfl) (hL43.sel [0, 1, 3, 4, 2] rfl)
    · have d2 : ¬ ((kv : Int) = (1 : Int)) := d2
      refine f_iln 0 rfl hL41 rfl ?_
      refine f_bipush (n := -9) rfl (by decide) ?_
      refine f_ic rfl (by omega) (by omega) (fun c_9 => absurd (show (wv : Int) = (-9 : Int) from c_9) (by omega)) (fun _ => ?_)
      refine f_s [fi (1)] rfl rfl ?_
      refine f_goto rfl ?_
      exact f_ret2 rfl (Or.inr rfl) ⟨by unfold sbM18; rw [if_neg (by omega), if_pos (by omega)], hw, hm⟩)
