/-! an hour, the ring of acts, the slots of the class -/
def weC (m : Nat → Nat → Int) (w h : Nat) (x : Int) : Nat → Nat → Int := if nO m w x = -9 then m else if kd m (nO m w x) = 3 ∧ 3 ≤ i32w (m h x.toNat + 1) then puC (up m h x.toNat (i32w (m h x.toNat + 1))) w h x (-9) else up m h x.toNat (i32w (m h x.toNat + 1))
def stC (m : Nat → Nat → Int) (w h a : Nat) (nb : Int) (p : Nat) (x : Int) : Nat → Nat → Int := weC (up m a p (i32w (m a p + iA (iR nb x) 1))) w h x
theorem nO_in {m : Nat → Nat → Int} {w : Nat} {x : Int} (h : ¬ nO m w x = -9) : 0 ≤ x ∧ x < m 3 6 := by
  unfold nO at h
  split at h
  · rename_i c; exact c
  · exact absurd rfl h
theorem puC_c {m : Nat → Nat → Int} {w h : Nat} {x k : Int} {q i : Nat} (h1 : q ≠ w) (h2 : q ≠ h) : puC m w h x k q i = m q i := by
  unfold puC
  split
  · rw [up_nc h2, up_nc h1]
  · rfl
theorem weC_c {m : Nat → Nat → Int} {w h : Nat} {x : Int} {q i : Nat} (h1 : q ≠ w) (h2 : q ≠ h) : weC m w h x q i = m q i := by
  unfold weC
  split
  · rfl
  · split
    · rw [puC_c h1 h2, up_nc h2]
    · rw [up_nc h2]
theorem stC_c {m : Nat → Nat → Int} {w h a : Nat} {nb : Int} {p : Nat} {x : Int} {q i : Nat} (h1 : q ≠ w) (h2 : q ≠ h) (h3 : q ≠ a) : stC m w h a nb p x q i = m q i := by
  unfold stC
  rw [weC_c h1 h2, up_nc h3]
theorem sav_ne {m : Nat → Nat → Int} {S q q' i : Nat} (h : q' ≠ q) : sav m S q q' i = m q' i := if_neg (fun z => h z.1)
theorem t87_9 {m : Nat → Nat → Int} (hn : 0 ≤ m 3 5 ∧ m 3 5 ≤ 4) (hp : 0 ≤ m 3 6 ∧ m 3 6 ≤ 5) {x : Int} (rx : -2147483648 ≤ x ∧ x ≤ 2147483647) : h_M 87 [.ref 9, fi (x)] m none (weC m 10 11 x) := h_M_of (R := ev_r87) rfl (fun hc hw hm => by
  have hL : f_L (lv_args 0 [.ref 9, fi (x)]) [(0, .ref 9), (1, fi (x))] := f_L_of rfl
  generalize lv_args 0 [.ref 9, fi (x)] = L at hL
  show x_W none (0, 0, 3, 1, 7, 3, 64, 0, 0, ev_t87) 0 L [] hc 0 0 _
  have hR := gi_R hm
  refine f_aln 0 rfl hL rfl ?_
  refine f_iln 1 rfl hL rfl ?_
  refine m_k1 (t53_9 hp rx) hw hm rfl rfl rfl (m_ar so9 hw rfl) rfl (fun hc1 hw1 hm1 => ?_)
  refine f_istn [(2, fi (nO m 10 x)), (0, .ref 9), (1, fi (x))] rfl (by decide) hL rfl (fun L1 hL1 => ?_)
  refine f_iln 0 rfl hL1 rfl ?_
  refine f_bipush (n := -9) rfl (by decide) ?_
  refine f_ic rfl (nO_r hR 10 x) (by decide) (fun c1 => ?_) (fun c1 => ?_)
  · have c1 : ¬ (nO m 10 x : Int) = (-9 : Int) := c1
    have hx := nO_in c1
    refine f_aln 1 rfl hL1 rfl ?_
    refine m_gfr so9 rfl hw1 rfl (by decide) ?_
    refine f_iln 2 rfl hL1 rfl ?_
    refine f_s [fi (x), .ref 11, fi (x), .ref 11] rfl rfl ?_
    refine m_ia sa11 (m 11 (x).toNat) rfl hw1 hm1 (by omega) (by omega) (by decide) rfl ?_
    refine f_s [fi (1), fi (m 11 (x).toNat), fi (x), .ref 11] rfl rfl ?_
    refine f_iadd rfl ?_
    refine b_w ?_
    refine m_ias sa11 rfl hw1 hm1 (by omega) (by omega) (by decide) i32w_r (fun hc2 hw2 hm2 => ?_)
    refine f_aln 1 rfl hL1 rfl ?_
    refine m_gfr so9 rfl hw2 rfl (by decide) ?_
    refine f_iln 0 rfl hL1 rfl ?_
    refine m_k1 (t41 (m := (up m 11 (x).toNat (i32w ((m 11 (x).toNat) + 1)))) hn (nO_r hR 10 x)) hw2 hm2 rfl rfl rfl (m_ar so3 hw2 rfl) rfl (fun hc3 hw3 hm3 => ?_)
    refine f_s [fi (3), fi (kd m (nO m 10 x))] rfl rfl ?_
    refine f_ic rfl (kd_r hR _) (by decide) (fun c2 => ?_) (fun c2 => ?_)
    · have c2 : ¬ (kd m (nO m 10 x) : Int) = (3 : Int) := c2
      exact m_ret0 rfl ⟨rfl, hw3, by rw [hm3]; unfold weC; rw [if_neg c1, if_neg (by omega)]⟩
    · have c2 : ¬ (¬ (kd m (nO m 10 x) : Int) = (3 : Int)) := c2
      refine f_aln 1 rfl hL1 rfl ?_
      refine m_gfr so9 rfl hw3 rfl (by decide) ?_
      refine f_iln 2 rfl hL1 rfl ?_
      refine m_ia sa11 (i32w ((m 11 (x).toNat) + 1)) rfl hw3 hm3 (by omega) (by omega) (by decide) up_eq ?_
      refine f_s [fi (3), fi (i32w ((m 11 (x).toNat) + 1))] rfl rfl ?_
      refine f_ic rfl i32w_r (by decide) (fun c3 => ?_) (fun c3 => ?_)
      · have c3 : (i32w ((m 11 (x).toNat) + 1) : Int) < (3 : Int) := c3
        exact m_ret0 rfl ⟨rfl, hw3, by rw [hm3]; unfold weC; rw [if_neg c1, if_neg (by omega)]⟩
      · have c3 : ¬ ((i32w ((m 11 (x).toNat) + 1) : Int) < (3 : Int)) := c3
        refine f_aln 1 rfl hL1 rfl ?_
        refine f_iln 2 rfl hL1 rfl ?_
        refine m_k0 (t81_9 (m := (up m 11 (x).toNat (i32w ((m 11 (x).toNat) + 1)))) hp rx) hw3 hm3 rfl rfl rfl (m_ar so9 hw3 rfl) rfl (fun hc4 hw4 hm4 => ?_)
        exact m_ret0 rfl ⟨rfl, hw4, by rw [hm4]; unfold weC; rw [if_neg c1, if_pos (by omega)]⟩
  · have c1 : ¬ (¬ (nO m 10 x : Int) = (-9 : Int)) := c1
    exact m_ret0 rfl ⟨rfl, hw1, by rw [hm1]; unfold weC; rw [if_pos (by omega)]⟩)
def phC9 (m : Nat → Nat → Int) : Nat → Nat → Int := (up (stC (stC (stC (stC (stC m 10 11 12 (iA (ngS m 9 (m 9 6)) (iX (sbS m 10) (-1))) 0 0) 10 11 12 (iA (ngS m 9 (m 9 6)) (iX (sbS m 10) (-1))) 1 1) 10 11 12 (iA (ngS m 9 (m 9 6)) (iX (sbS m 10) (-1))) 2 2) 10 11 12 (iA (ngS m 9 (m 9 6)) (iX (sbS m 10) (-1))) 3 3) 10 11 12 (iA (ngS m 9 (m 9 6)) (iX (sbS m 10) (-1))) 4 4) 9 6 (i32w (((stC (stC (stC (stC (stC m 10 11 12 (iA (ngS m 9 (m 9 6)) (iX (sbS m 10) (-1))) 0 0) 10 11 12 (iA (ngS m 9 (m 9 6)) (iX (sbS m 10) (-1))) 1 1) 10 11 12 (iA (ngS m 9 (m 9 6)) (iX (sbS m 10) (-1))) 2 2) 10 11 12 (iA (ngS m 9 (m 9 6)) (iX (sbS m 10) (-1))) 3 3) 10 11 12 (iA (ngS m 9 (m 9 6)) (iX (sbS m 10) (-1))) 4 4) 9 6) + 1)))
theorem t88_9 {m : Nat → Nat → Int} (hn : 0 ≤ m 3 5 ∧ m 3 5 ≤ 4) (hp : 0 ≤ m 3 6 ∧ m 3 6 ≤ 5) : h_M 88 [.ref 9] m (some (fi (bC (iA (ngS m 9 (m 9 6)) (iX (sbS m 10) (-1)))))) (phC9 m) := h_M_of (R := ev_r88) rfl (fun hc hw hm => by
  have hL : f_L (lv_args 0 [.ref 9]) [(0, .ref 9)] := f_L_of rfl
  generalize lv_args 0 [.ref 9] = L at hL
  show x_W none (1, 0, 3, 0, 7, 4, 89, 0, 0, ev_t88) 0 L [] hc 0 0 _
  have hR := gi_R hm
  refine f_aln 0 rfl hL rfl ?_
  refine f_aln 0 rfl hL rfl ?_
  refine m_gfi so9 (m 9 6) rfl hw hm rfl rfl ?_
  refine m_k1 (t86_9 hp (hR 9 6)) hw hm rfl rfl rfl (m_ar so9 hw rfl) rfl (fun hc1 hw1 hm1 => ?_)
  refine f_aln 0 rfl hL rfl ?_
  refine m_k1 (t57_9 hn) hw1 hm1 rfl rfl rfl (m_ar so9 hw1 rfl) rfl (fun hc2 hw2 hm2 => ?_)
  refine f_s [fi (-1), fi (sbS m 10), fi (ngS m 9 (m 9 6))] rfl rfl ?_
  refine b_ixor rfl ?_
  refine b_iand rfl ?_
  refine f_istn [(1, fi (iA (ngS m 9 (m 9 6)) (iX (sbS m 10) (-1)))), (0, .ref 9)] rfl (by decide) hL rfl (fun L1 hL1 => ?_)
  refine f_s [fi (0)] rfl rfl ?_
  refine f_istn [(2, fi (0)), (1, fi (iA (ngS m 9 (m 9 6)) (iX (sbS m 10) (-1)))), (0, .ref 9)] rfl (by decide) hL1 rfl (fun L2 hL2 => ?_)
  have hn0 := hn
  have hp0 := hp
  refine f_iln 0 rfl hL2 rfl ?_
  refine f_s [fi (5), fi (0)] rfl rfl ?_
  refine f_ic rfl (by decide) (by decide) (fun c_9 => absurd (show (5 : Int) ≤ (0 : Int) from c_9) (by decide)) (fun _ => ?_)
  refine f_aln 2 rfl hL2 rfl ?_
  refine m_gfr so9 rfl hw2 rfl (by decide) ?_
  refine f_iln 0 rfl hL2 rfl ?_
  refine f_s [fi (0), .ref 12, fi (0), .ref 12] rfl rfl ?_
  refine m_ia sa12 (m 12 0) rfl hw2 hm2 (by omega) (by omega) (by decide) rfl ?_
  refine f_iln 1 rfl hL2 rfl ?_
  refine f_iln 0 rfl hL2 rfl ?_
  refine b_ishr rfl ?_
  refine f_s [fi (1), fi (iR (iA (ngS m 9 (m 9 6)) (iX (sbS m 10) (-1))) (0)), fi (m 12 0), fi (0), .ref 12] rfl rfl ?_
  refine b_iand rfl ?_
  refine f_iadd rfl ?_
  refine b_w ?_
  refine m_ias sa12 rfl hw2 hm2 (by omega) (by omega) (by decide) i32w_r (fun hc3 hw3 hm3 => ?_)
  refine f_aln 2 rfl hL2 rfl ?_
  refine f_iln 0 rfl hL2 rfl ?_
  refine m_k0 (t87_9 (m := (up m 12 0 (i32w ((m 12 0) + (iA (iR (iA (ngS m 9 (m 9 6)) (iX (sbS m 10) (-1))) (0)) (1)))))) (x := 0) hn0 hp0 (by decide)) hw3 hm3 rfl rfl rfl (m_ar so9 hw3 rfl) rfl (fun hc4 hw4 hm4 => ?_)
  have hn1 : 0 ≤ (stC m 10 11 12 (iA (ngS m 9 (m 9 6)) (iX (sbS m 10) (-1))) 0 0) 3 5 ∧ (stC m 10 11 12 (iA (ngS m 9 (m 9 6)) (iX (sbS m 10) (-1))) 0 0) 3 5 ≤ 4 := by rw [stC_c (by decide) (by decide) (by decide)]; exact hn0
  have hp1 : 0 ≤ (stC m 10 11 12 (iA (ngS m 9 (m 9 6)) (iX (sbS m 10) (-1))) 0 0) 3 6 ∧ (stC m 10 11 12 (iA (ngS m 9 (m 9 6)) (iX (sbS m 10) (-1))) 0 0) 3 6 ≤ 5 := by rw [stC_c (by decide) (by decide) (by decide)]; exact hp0
  refine f_inc 0 [(2, fi (1)), (1, fi (iA (ngS m 9 (m 9 6)) (iX (sbS m 10) (-1)))), (0, .ref 9)] rfl (by decide) hL2 rfl rfl (fun L3 hL3 => ?_)
  refine f_goto rfl ?_
  refine f_iln 0 rfl hL3 rfl ?_
  refine f_s [fi (5), fi (1)] rfl rfl ?_
  refine f_ic rfl (by decide) (by decide) (fun c_9 => absurd (show (5 : Int) ≤ (1 : Int) from c_9) (by decide)) (fun _ => ?_)
  refine f_aln 2 rfl hL3 rfl ?_
  refine m_gfr so9 rfl hw4 rfl (by decide) ?_
  refine f_iln 0 rfl hL3 rfl ?_
  refine f_s [fi (1), .ref 12, fi (1), .ref 12] rfl rfl ?_
  refine m_ia sa12 ((stC m 10 11 12 (iA (ngS m 9 (m 9 6)) (iX (sbS m 10) (-1))) 0 0) 12 1) rfl hw4 hm4 (by omega) (by omega) (by decide) rfl ?_
  refine f_iln 1 rfl hL3 rfl ?_
  refine f_iln 0 rfl hL3 rfl ?_
  refine b_ishr rfl ?_
  refine f_s [fi (1), fi (iR (iA (ngS m 9 (m 9 6)) (iX (sbS m 10) (-1))) (1)), fi ((stC m 10 11 12 (iA (ngS m 9 (m 9 6)) (iX (sbS m 10) (-1))) 0 0) 12 1), fi (1), .ref 12] rfl rfl ?_
  refine b_iand rfl ?_
  refine f_iadd rfl ?_
  refine b_w ?_
  refine m_ias sa12 rfl hw4 hm4 (by omega) (by omega) (by decide) i32w_r (fun hc5 hw5 hm5 => ?_)
  refine f_aln 2 rfl hL3 rfl ?_
  refine f_iln 0 rfl hL3 rfl ?_
  refine m_k0 (t87_9 (m := (up (stC m 10 11 12 (iA (ngS m 9 (m 9 6)) (iX (sbS m 10) (-1))) 0 0) 12 1 (i32w (((stC m 10 11 12 (iA (ngS m 9 (m 9 6)) (iX (sbS m 10) (-1))) 0 0) 12 1) + (iA (iR (iA (ngS m 9 (m 9 6)) (iX (sbS m 10) (-1))) (1)) (1)))))) (x := 1) hn1 hp1 (by decide)) hw5 hm5 rfl rfl rfl (m_ar so9 hw5 rfl) rfl (fun hc6 hw6 hm6 => ?_)
  have hn2 : 0 ≤ (stC (stC m 10 11 12 (iA (ngS m 9 (m 9 6)) (iX (sbS m 10) (-1))) 0 0) 10 11 12 (iA (ngS m 9 (m 9 6)) (iX (sbS m 10) (-1))) 1 1) 3 5 ∧ (stC (stC m 10 11 12 (iA (ngS m 9 (m 9 6)) (iX (sbS m 10) (-1))) 0 0) 10 11 12 (iA (ngS m 9 (m 9 6)) (iX (sbS m 10) (-1))) 1 1) 3 5 ≤ 4 := by rw [stC_c (by decide) (by decide) (by decide)]; exact hn1
  have hp2 : 0 ≤ (stC (stC m 10 11 12 (iA (ngS m 9 (m 9 6)) (iX (sbS m 10) (-1))) 0 0) 10 11 12 (iA (ngS m 9 (m 9 6)) (iX (sbS m 10) (-1))) 1 1) 3 6 ∧ (stC (stC m 10 11 12 (iA (ngS m 9 (m 9 6)) (iX (sbS m 10) (-1))) 0 0) 10 11 12 (iA (ngS m 9 (m 9 6)) (iX (sbS m 10) (-1))) 1 1) 3 6 ≤ 5 := by rw [stC_c (by decide) (by decide) (by decide)]; exact hp1
  refine f_inc 0 [(2, fi (2)), (1, fi (iA (ngS m 9 (m 9 6)) (iX (sbS m 10) (-1)))), (0, .ref 9)] rfl (by decide) hL3 rfl rfl (fun L4 hL4 => ?_)
  refine f_goto rfl ?_
  refine f_iln 0 rfl hL4 rfl ?_
  refine f_s [fi (5), fi (2)] rfl rfl ?_
  refine f_ic rfl (by decide) (by decide) (fun c_9 => absurd (show (5 : Int) ≤ (2 : Int) from c_9) (by decide)) (fun _ => ?_)
  refine f_aln 2 rfl hL4 rfl ?_
  refine m_gfr so9 rfl hw6 rfl (by decide) ?_
  refine f_iln 0 rfl hL4 rfl ?_
  refine f_s [fi (2), .ref 12, fi (2), .ref 12] rfl rfl ?_
  refine m_ia sa12 ((stC (stC m 10 11 12 (iA (ngS m 9 (m 9 6)) (iX (sbS m 10) (-1))) 0 0) 10 11 12 (iA (ngS m 9 (m 9 6)) (iX (sbS m 10) (-1))) 1 1) 12 2) rfl hw6 hm6 (by omega) (by omega) (by decide) rfl ?_
  refine f_iln 1 rfl hL4 rfl ?_
  refine f_iln 0 rfl hL4 rfl ?_
  refine b_ishr rfl ?_
  refine f_s [fi (1), fi (iR (iA (ngS m 9 (m 9 6)) (iX (sbS m 10) (-1))) (2)), fi ((stC (stC m 10 11 12 (iA (ngS m 9 (m 9 6)) (iX (sbS m 10) (-1))) 0 0) 10 11 12 (iA (ngS m 9 (m 9 6)) (iX (sbS m 10) (-1))) 1 1) 12 2), fi (2), .ref 12] rfl rfl ?_
  refine b_iand rfl ?_
  refine f_iadd rfl ?_
  refine b_w ?_
  refine m_ias sa12 rfl hw6 hm6 (by omega) (by omega) (by decide) i32w_r (fun hc7 hw7 hm7 => ?_)
  refine f_aln 2 rfl hL4 rfl ?_
  refine f_iln 0 rfl hL4 rfl ?_
  refine m_k0 (t87_9 (m := (up (stC (stC m 10 11 12 (iA (ngS m 9 (m 9 6)) (iX (sbS m 10) (-1))) 0 0) 10 11 12 (iA (ngS m 9 (m 9 6)) (iX (sbS m 10) (-1))) 1 1) 12 2 (i32w (((stC (stC m 10 11 12 (iA (ngS m 9 (m 9 6)) (iX (sbS m 10) (-1))) 0 0) 10 11 12 (iA (ngS m 9 (m 9 6)) (iX (sbS m 10) (-1))) 1 1) 12 2) + (iA (iR (iA (ngS m 9 (m 9 6)) (iX (sbS m 10) (-1))) (2)) (1)))))) (x := 2) hn2 hp2 (by decide)) hw7 hm7 rfl rfl rfl (m_ar so9 hw7 rfl) rfl (fun hc8 hw8 hm8 => ?_)
  have hn3 : 0 ≤ (stC (stC (stC m 10 11 12 (iA (ngS m 9 (m 9 6)) (iX (sbS m 10) (-1))) 0 0) 10 11 12 (iA (ngS m 9 (m 9 6)) (iX (sbS m 10) (-1))) 1 1) 10 11 12 (iA (ngS m 9 (m 9 6)) (iX (sbS m 10) (-1))) 2 2) 3 5 ∧ (stC (stC (stC m 10 11 12 (iA (ngS m 9 (m 9 6)) (iX (sbS m 10) (-1))) 0 0) 10 11 12 (iA (ngS m 9 (m 9 6)) (iX (sbS m 10) (-1))) 1 1) 10 11 12 (iA (ngS m 9 (m 9 6)) (iX (sbS m 10) (-1))) 2 2) 3 5 ≤ 4 := by rw [stC_c (by decide) (by decide) (by decide)]; exact hn2
  have hp3 : 0 ≤ (stC (stC (stC m 10 11 12 (iA (ngS m 9 (m 9 6)) (iX (sbS m 10) (-1))) 0 0) 10 11 12 (iA (ngS m 9 (m 9 6)) (iX (sbS m 10) (-1))) 1 1) 10 11 12 (iA (ngS m 9 (m 9 6)) (iX (sbS m 10) (-1))) 2 2) 3 6 ∧ (stC (stC (stC m 10 11 12 (iA (ngS m 9 (m 9 6)) (iX (sbS m 10) (-1))) 0 0) 10 11 12 (iA (ngS m 9 (m 9 6)) (iX (sbS m 10) (-1))) 1 1) 10 11 12 (iA (ngS m 9 (m 9 6)) (iX (sbS m 10) (-1))) 2 2) 3 6 ≤ 5 := by rw [stC_c (by decide) (by decide) (by decide)]; exact hp2
  refine f_inc 0 [(2, fi (3)), (1, fi (iA (ngS m 9 (m 9 6)) (iX (sbS m 10) (-1)))), (0, .ref 9)] rfl (by decide) hL4 rfl rfl (fun L5 hL5 => ?_)
  refine f_goto rfl ?_
  refine f_iln 0 rfl hL5 rfl ?_
  refine f_s [fi (5), fi (3)] rfl rfl ?_
  refine f_ic rfl (by decide) (by decide) (fun c_9 => absurd (show (5 : Int) ≤ (3 : Int) from c_9) (by decide)) (fun _ => ?_)
  refine f_aln 2 rfl hL5 rfl ?_
  refine m_gfr so9 rfl hw8 rfl (by decide) ?_
  refine f_iln 0 rfl hL5 rfl ?_
  refine f_s [fi (3), .ref 12, fi (3), .ref 12] rfl rfl ?_
  refine m_ia sa12 ((stC (stC (stC m 10 11 12 (iA (ngS m 9 (m 9 6)) (iX (sbS m 10) (-1))) 0 0) 10 11 12 (iA (ngS m 9 (m 9 6)) (iX (sbS m 10) (-1))) 1 1) 10 11 12 (iA (ngS m 9 (m 9 6)) (iX (sbS m 10) (-1))) 2 2) 12 3) rfl hw8 hm8 (by omega) (by omega) (by decide) rfl ?_
  refine f_iln 1 rfl hL5 rfl ?_
  refine f_iln 0 rfl hL5 rfl ?_
  refine b_ishr rfl ?_
  refine f_s [fi (1), fi (iR (iA (ngS m 9 (m 9 6)) (iX (sbS m 10) (-1))) (3)), fi ((stC (stC (stC m 10 11 12 (iA (ngS m 9 (m 9 6)) (iX (sbS m 10) (-1))) 0 0) 10 11 12 (iA (ngS m 9 (m 9 6)) (iX (sbS m 10) (-1))) 1 1) 10 11 12 (iA (ngS m 9 (m 9 6)) (iX (sbS m 10) (-1))) 2 2) 12 3), fi (3), .ref 12] rfl rfl ?_
  refine b_iand rfl ?_
  refine f_iadd rfl ?_
  refine b_w ?_
  refine m_ias sa12 rfl hw8 hm8 (by omega) (by omega) (by decide) i32w_r (fun hc9 hw9 hm9 => ?_)
  refine f_aln 2 rfl hL5 rfl ?_
  refine f_iln 0 rfl hL5 rfl ?_
  refine m_k0 (t87_9 (m := (up (stC (stC (stC m 10 11 12 (iA (ngS m 9 (m 9 6)) (iX (sbS m 10) (-1))) 0 0) 10 11 12 (iA (ngS m 9 (m 9 6)) (iX (sbS m 10) (-1))) 1 1) 10 11 12 (iA (ngS m 9 (m 9 6)) (iX (sbS m 10) (-1))) 2 2) 12 3 (i32w (((stC (stC (stC m 10 11 12 (iA (ngS m 9 (m 9 6)) (iX (sbS m 10) (-1))) 0 0) 10 11 12 (iA (ngS m 9 (m 9 6)) (iX (sbS m 10) (-1))) 1 1) 10 11 12 (iA (ngS m 9 (m 9 6)) (iX (sbS m 10) (-1))) 2 2) 12 3) + (iA (iR (iA (ngS m 9 (m 9 6)) (iX (sbS m 10) (-1))) (3)) (1)))))) (x := 3) hn3 hp3 (by decide)) hw9 hm9 rfl rfl rfl (m_ar so9 hw9 rfl) rfl (fun hc10 hw10 hm10 => ?_)
  have hn4 : 0 ≤ (stC (stC (stC (stC m 10 11 12 (iA (ngS m 9 (m 9 6)) (iX (sbS m 10) (-1))) 0 0) 10 11 12 (iA (ngS m 9 (m 9 6)) (iX (sbS m 10) (-1))) 1 1) 10 11 12 (iA (ngS m 9 (m 9 6)) (iX (sbS m 10) (-1))) 2 2) 10 11 12 (iA (ngS m 9 (m 9 6)) (iX (sbS m 10) (-1))) 3 3) 3 5 ∧ (stC (stC (stC (stC m 10 11 12 (iA (ngS m 9 (m 9 6)) (iX (sbS m 10) (-1))) 0 0) 10 11 12 (iA (ngS m 9 (m 9 6)) (iX (sbS m 10) (-1))) 1 1) 10 11 12 (iA (ngS m 9 (m 9 6)) (iX (sbS m 10) (-1))) 2 2) 10 11 12 (iA (ngS m 9 (m 9 6)) (iX (sbS m 10) (-1))) 3 3) 3 5 ≤ 4 := by rw [stC_c (by decide) (by decide) (by decide)]; exact hn3
  have hp4 : 0 ≤ (stC (stC (stC (stC m 10 11 12 (iA (ngS m 9 (m 9 6)) (iX (sbS m 10) (-1))) 0 0) 10 11 12 (iA (ngS m 9 (m 9 6)) (iX (sbS m 10) (-1))) 1 1) 10 11 12 (iA (ngS m 9 (m 9 6)) (iX (sbS m 10) (-1))) 2 2) 10 11 12 (iA (ngS m 9 (m 9 6)) (iX (sbS m 10) (-1))) 3 3) 3 6 ∧ (stC (stC (stC (stC m 10 11 12 (iA (ngS m 9 (m 9 6)) (iX (sbS m 10) (-1))) 0 0) 10 11 12 (iA (ngS m 9 (m 9 6)) (iX (sbS m 10) (-1))) 1 1) 10 11 12 (iA (ngS m 9 (m 9 6)) (iX (sbS m 10) (-1))) 2 2) 10 11 12 (iA (ngS m 9 (m 9 6)) (iX (sbS m 10) (-1))) 3 3) 3 6 ≤ 5 := by rw [stC_c (by decide) (by decide) (by decide)]; exact hp3
  refine f_inc 0 [(2, fi (4)), (1, fi (iA (ngS m 9 (m 9 6)) (iX (sbS m 10) (-1)))), (0, .ref 9)] rfl (by decide) hL5 rfl rfl (fun L6 hL6 => ?_)
  refine f_goto rfl ?_
  refine f_iln 0 rfl hL6 rfl ?_
  refine f_s [fi (5), fi (4)] rfl rfl ?_
  refine f_ic rfl (by decide) (by decide) (fun c_9 => absurd (show (5 : Int) ≤ (4 : Int) from c_9) (by decide)) (fun _ => ?_)
  refine f_aln 2 rfl hL6 rfl ?_
  refine m_gfr so9 rfl hw10 rfl (by decide) ?_
  refine f_iln 0 rfl hL6 rfl ?_
  refine f_s [fi (4), .ref 12, fi (4), .ref 12] rfl rfl ?_
  refine m_ia sa12 ((stC (stC (stC (stC m 10 11 12 (iA (ngS m 9 (m 9 6)) (iX (sbS m 10) (-1))) 0 0) 10 11 12 (iA (ngS m 9 (m 9 6)) (iX (sbS m 10) (-1))) 1 1) 10 11 12 (iA (ngS m 9 (m 9 6)) (iX (sbS m 10) (-1))) 2 2) 10 11 12 (iA (ngS m 9 (m 9 6)) (iX (sbS m 10) (-1))) 3 3) 12 4) rfl hw10 hm10 (by omega) (by omega) (by decide) rfl ?_
  refine f_iln 1 rfl hL6 rfl ?_
  refine f_iln 0 rfl hL6 rfl ?_
  refine b_ishr rfl ?_
  refine f_s [fi (1), fi (iR (iA (ngS m 9 (m 9 6)) (iX (sbS m 10) (-1))) (4)), fi ((stC (stC (stC (stC m 10 11 12 (iA (ngS m 9 (m 9 6)) (iX (sbS m 10) (-1))) 0 0) 10 11 12 (iA (ngS m 9 (m 9 6)) (iX (sbS m 10) (-1))) 1 1) 10 11 12 (iA (ngS m 9 (m 9 6)) (iX (sbS m 10) (-1))) 2 2) 10 11 12 (iA (ngS m 9 (m 9 6)) (iX (sbS m 10) (-1))) 3 3) 12 4), fi (4), .ref 12] rfl rfl ?_
  refine b_iand rfl ?_
  refine f_iadd rfl ?_
  refine b_w ?_
  refine m_ias sa12 rfl hw10 hm10 (by omega) (by omega) (by decide) i32w_r (fun hc11 hw11 hm11 => ?_)
  refine f_aln 2 rfl hL6 rfl ?_
  refine f_iln 0 rfl hL6 rfl ?_
  refine m_k0 (t87_9 (m := (up (stC (stC (stC (stC m 10 11 12 (iA (ngS m 9 (m 9 6)) (iX (sbS m 10) (-1))) 0 0) 10 11 12 (iA (ngS m 9 (m 9 6)) (iX (sbS m 10) (-1))) 1 1) 10 11 12 (iA (ngS m 9 (m 9 6)) (iX (sbS m 10) (-1))) 2 2) 10 11 12 (iA (ngS m 9 (m 9 6)) (iX (sbS m 10) (-1))) 3 3) 12 4 (i32w (((stC (stC (stC (stC m 10 11 12 (iA (ngS m 9 (m 9 6)) (iX (sbS m 10) (-1))) 0 0) 10 11 12 (iA (ngS m 9 (m 9 6)) (iX (sbS m 10) (-1))) 1 1) 10 11 12 (iA (ngS m 9 (m 9 6)) (iX (sbS m 10) (-1))) 2 2) 10 11 12 (iA (ngS m 9 (m 9 6)) (iX (sbS m 10) (-1))) 3 3) 12 4) + (iA (iR (iA (ngS m 9 (m 9 6)) (iX (sbS m 10) (-1))) (4)) (1)))))) (x := 4) hn4 hp4 (by decide)) hw11 hm11 rfl rfl rfl (m_ar so9 hw11 rfl) rfl (fun hc12 hw12 hm12 => ?_)
  have hn5 : 0 ≤ (stC (stC (stC (stC (stC m 10 11 12 (iA (ngS m 9 (m 9 6)) (iX (sbS m 10) (-1))) 0 0) 10 11 12 (iA (ngS m 9 (m 9 6)) (iX (sbS m 10) (-1))) 1 1) 10 11 12 (iA (ngS m 9 (m 9 6)) (iX (sbS m 10) (-1))) 2 2) 10 11 12 (iA (ngS m 9 (m 9 6)) (iX (sbS m 10) (-1))) 3 3) 10 11 12 (iA (ngS m 9 (m 9 6)) (iX (sbS m 10) (-1))) 4 4) 3 5 ∧ (stC (stC (stC (stC (stC m 10 11 12 (iA (ngS m 9 (m 9 6)) (iX (sbS m 10) (-1))) 0 0) 10 11 12 (iA (ngS m 9 (m 9 6)) (iX (sbS m 10) (-1))) 1 1) 10 11 12 (iA (ngS m 9 (m 9 6)) (iX (sbS m 10) (-1))) 2 2) 10 11 12 (iA (ngS m 9 (m 9 6)) (iX (sbS m 10) (-1))) 3 3) 10 11 12 (iA (ngS m 9 (m 9 6)) (iX (sbS m 10) (-1))) 4 4) 3 5 ≤ 4 := by rw [stC_c (by decide) (by decide) (by decide)]; exact hn4
  have hp5 : 0 ≤ (stC (stC (stC (stC (stC m 10 11 12 (iA (ngS m 9 (m 9 6)) (iX (sbS m 10) (-1))) 0 0) 10 11 12 (iA (ngS m 9 (m 9 6)) (iX (sbS m 10) (-1))) 1 1) 10 11 12 (iA (ngS m 9 (m 9 6)) (iX (sbS m 10) (-1))) 2 2) 10 11 12 (iA (ngS m 9 (m 9 6)) (iX (sbS m 10) (-1))) 3 3) 10 11 12 (iA (ngS m 9 (m 9 6)) (iX (sbS m 10) (-1))) 4 4) 3 6 ∧ (stC (stC (stC (stC (stC m 10 11 12 (iA (ngS m 9 (m 9 6)) (iX (sbS m 10) (-1))) 0 0) 10 11 12 (iA (ngS m 9 (m 9 6)) (iX (sbS m 10) (-1))) 1 1) 10 11 12 (iA (ngS m 9 (m 9 6)) (iX (sbS m 10) (-1))) 2 2) 10 11 12 (iA (ngS m 9 (m 9 6)) (iX (sbS m 10) (-1))) 3 3) 10 11 12 (iA (ngS m 9 (m 9 6)) (iX (sbS m 10) (-1))) 4 4) 3 6 ≤ 5 := by rw [stC_c (by decide) (by decide) (by decide)]; exact hp4
  refine f_inc 0 [(2, fi (5)), (1, fi (iA (ngS m 9 (m 9 6)) (iX (sbS m 10) (-1)))), (0, .ref 9)] rfl (by decide) hL6 rfl rfl (fun L7 hL7 => ?_)
  refine f_goto rfl ?_
  refine f_iln 0 rfl hL7 rfl ?_
  refine f_s [fi (5), fi (5)] rfl rfl ?_
  refine f_ic rfl (by decide) (by decide) (fun _ => ?_) (fun c_9 => absurd (show (5 : Int) ≤ (5 : Int) from (by decide)) c_9)
  refine f_aln 2 rfl hL7 rfl ?_
  refine f_s [.ref 9, .ref 9] rfl rfl ?_
  refine m_gfi so9 ((stC (stC (stC (stC (stC m 10 11 12 (iA (ngS m 9 (m 9 6)) (iX (sbS m 10) (-1))) 0 0) 10 11 12 (iA (ngS m 9 (m 9 6)) (iX (sbS m 10) (-1))) 1 1) 10 11 12 (iA (ngS m 9 (m 9 6)) (iX (sbS m 10) (-1))) 2 2) 10 11 12 (iA (ngS m 9 (m 9 6)) (iX (sbS m 10) (-1))) 3 3) 10 11 12 (iA (ngS m 9 (m 9 6)) (iX (sbS m 10) (-1))) 4 4) 9 6) rfl hw12 hm12 rfl rfl ?_
  refine f_s [fi (1), fi ((stC (stC (stC (stC (stC m 10 11 12 (iA (ngS m 9 (m 9 6)) (iX (sbS m 10) (-1))) 0 0) 10 11 12 (iA (ngS m 9 (m 9 6)) (iX (sbS m 10) (-1))) 1 1) 10 11 12 (iA (ngS m 9 (m 9 6)) (iX (sbS m 10) (-1))) 2 2) 10 11 12 (iA (ngS m 9 (m 9 6)) (iX (sbS m 10) (-1))) 3 3) 10 11 12 (iA (ngS m 9 (m 9 6)) (iX (sbS m 10) (-1))) 4 4) 9 6), .ref 9] rfl rfl ?_
  refine f_iadd rfl ?_
  refine b_w ?_
  refine m_pf so9 rfl hw12 hm12 rfl rfl i32w_r (fun hc13 hw13 hm13 => ?_)
  refine f_iln 1 rfl hL7 rfl ?_
  refine m_k1 (t65 iA_r) hw13 hm13 rfl rfl rfl rfl rfl (fun hc14 hw14 hm14 => ?_)
  exact f_ret1 rfl ⟨rfl, hw14, hm14⟩)
theorem t87_13 {m : Nat → Nat → Int} (hn : 0 ≤ m 3 5 ∧ m 3 5 ≤ 4) (hp : 0 ≤ m 3 6 ∧ m 3 6 ≤ 5) {x : Int} (rx : -2147483648 ≤ x ∧ x ≤ 2147483647) : h_M 87 [.ref 13, fi (x)] m none (weC m 14 15 x) := h_M_of (R := ev_r87) rfl (fun hc hw hm => by
  have hL : f_L (lv_args 0 [.ref 13, fi (x)]) [(0, .ref 13), (1, fi (x))] := f_L_of rfl
  generalize lv_args 0 [.ref 13, fi (x)] = L at hL
  show x_W none (0, 0, 3, 1, 7, 3, 64, 0, 0, ev_t87) 0 L [] hc 0 0 _
  have hR := gi_R hm
  refine f_aln 0 rfl hL rfl ?_
  refine f_iln 1 rfl hL rfl ?_
  refine m_k1 (t53_13 hp rx) hw hm rfl rfl rfl (m_ar so13 hw rfl) rfl (fun hc1 hw1 hm1 => ?_)
  refine f_istn [(2, fi (nO m 14 x)), (0, .ref 13), (1, fi (x))] rfl (by decide) hL rfl (fun L1 hL1 => ?_)
  refine f_iln 0 rfl hL1 rfl ?_
  refine f_bipush (n := -9) rfl (by decide) ?_
  refine f_ic rfl (nO_r hR 14 x) (by decide) (fun c1 => ?_) (fun c1 => ?_)
  · have c1 : ¬ (nO m 14 x : Int) = (-9 : Int) := c1
    have hx := nO_in c1
    refine f_aln 1 rfl hL1 rfl ?_
    refine m_gfr so13 rfl hw1 rfl (by decide) ?_
    refine f_iln 2 rfl hL1 rfl ?_
    refine f_s [fi (x), .ref 15, fi (x), .ref 15] rfl rfl ?_
    refine m_ia sa15 (m 15 (x).toNat) rfl hw1 hm1 (by omega) (by omega) (by decide) rfl ?_
    refine f_s [fi (1), fi (m 15 (x).toNat), fi (x), .ref 15] rfl rfl ?_
    refine f_iadd rfl ?_
    refine b_w ?_
    refine m_ias sa15 rfl hw1 hm1 (by omega) (by omega) (by decide) i32w_r (fun hc2 hw2 hm2 => ?_)
    refine f_aln 1 rfl hL1 rfl ?_
    refine m_gfr so13 rfl hw2 rfl (by decide) ?_
    refine f_iln 0 rfl hL1 rfl ?_
    refine m_k1 (t41 (m := (up m 15 (x).toNat (i32w ((m 15 (x).toNat) + 1)))) hn (nO_r hR 14 x)) hw2 hm2 rfl rfl rfl (m_ar so3 hw2 rfl) rfl (fun hc3 hw3 hm3 => ?_)
    refine f_s [fi (3), fi (kd m (nO m 14 x))] rfl rfl ?_
    refine f_ic rfl (kd_r hR _) (by decide) (fun c2 => ?_) (fun c2 => ?_)
    · have c2 : ¬ (kd m (nO m 14 x) : Int) = (3 : Int) := c2
      exact m_ret0 rfl ⟨rfl, hw3, by rw [hm3]; unfold weC; rw [if_neg c1, if_neg (by omega)]⟩
    · have c2 : ¬ (¬ (kd m (nO m 14 x) : Int) = (3 : Int)) := c2
      refine f_aln 1 rfl hL1 rfl ?_
      refine m_gfr so13 rfl hw3 rfl (by decide) ?_
      refine f_iln 2 rfl hL1 rfl ?_
      refine m_ia sa15 (i32w ((m 15 (x).toNat) + 1)) rfl hw3 hm3 (by omega) (by omega) (by decide) up_eq ?_
      refine f_s [fi (3), fi (i32w ((m 15 (x).toNat) + 1))] rfl rfl ?_
      refine f_ic rfl i32w_r (by decide) (fun c3 => ?_) (fun c3 => ?_)
      · have c3 : (i32w ((m 15 (x).toNat) + 1) : Int) < (3 : Int) := c3
        exact m_ret0 rfl ⟨rfl, hw3, by rw [hm3]; unfold weC; rw [if_neg c1, if_neg (by omega)]⟩
      · have c3 : ¬ ((i32w ((m 15 (x).toNat) + 1) : Int) < (3 : Int)) := c3
        refine f_aln 1 rfl hL1 rfl ?_
        refine f_iln 2 rfl hL1 rfl ?_
        refine m_k0 (t81_13 (m := (up m 15 (x).toNat (i32w ((m 15 (x).toNat) + 1)))) hp rx) hw3 hm3 rfl rfl rfl (m_ar so13 hw3 rfl) rfl (fun hc4 hw4 hm4 => ?_)
        exact m_ret0 rfl ⟨rfl, hw4, by rw [hm4]; unfold weC; rw [if_neg c1, if_pos (by omega)]⟩
  · have c1 : ¬ (¬ (nO m 14 x : Int) = (-9 : Int)) := c1
    exact m_ret0 rfl ⟨rfl, hw1, by rw [hm1]; unfold weC; rw [if_pos (by omega)]⟩)
def phC13 (m : Nat → Nat → Int) : Nat → Nat → Int := (up (stC (stC (stC (stC (stC m 14 15 16 (iA (ngS m 13 (m 13 6)) (iX (sbS m 14) (-1))) 0 0) 14 15 16 (iA (ngS m 13 (m 13 6)) (iX (sbS m 14) (-1))) 1 1) 14 15 16 (iA (ngS m 13 (m 13 6)) (iX (sbS m 14) (-1))) 2 2) 14 15 16 (iA (ngS m 13 (m 13 6)) (iX (sbS m 14) (-1))) 3 3) 14 15 16 (iA (ngS m 13 (m 13 6)) (iX (sbS m 14) (-1))) 4 4) 13 6 (i32w (((stC (stC (stC (stC (stC m 14 15 16 (iA (ngS m 13 (m 13 6)) (iX (sbS m 14) (-1))) 0 0) 14 15 16 (iA (ngS m 13 (m 13 6)) (iX (sbS m 14) (-1))) 1 1) 14 15 16 (iA (ngS m 13 (m 13 6)) (iX (sbS m 14) (-1))) 2 2) 14 15 16 (iA (ngS m 13 (m 13 6)) (iX (sbS m 14) (-1))) 3 3) 14 15 16 (iA (ngS m 13 (m 13 6)) (iX (sbS m 14) (-1))) 4 4) 13 6) + 1)))
theorem t88_13 {m : Nat → Nat → Int} (hn : 0 ≤ m 3 5 ∧ m 3 5 ≤ 4) (hp : 0 ≤ m 3 6 ∧ m 3 6 ≤ 5) : h_M 88 [.ref 13] m (some (fi (bC (iA (ngS m 13 (m 13 6)) (iX (sbS m 14) (-1)))))) (phC13 m) := h_M_of (R := ev_r88) rfl (fun hc hw hm => by
  have hL : f_L (lv_args 0 [.ref 13]) [(0, .ref 13)] := f_L_of rfl
  generalize lv_args 0 [.ref 13] = L at hL
  show x_W none (1, 0, 3, 0, 7, 4, 89, 0, 0, ev_t88) 0 L [] hc 0 0 _
  have hR := gi_R hm
  refine f_aln 0 rfl hL rfl ?_
  refine f_aln 0 rfl hL rfl ?_
  refine m_gfi so13 (m 13 6) rfl hw hm rfl rfl ?_
  refine m_k1 (t86_13 hp (hR 13 6)) hw hm rfl rfl rfl (m_ar so13 hw rfl) rfl (fun hc1 hw1 hm1 => ?_)
  refine f_aln 0 rfl hL rfl ?_
  refine m_k1 (t57_13 hn) hw1 hm1 rfl rfl rfl (m_ar so13 hw1 rfl) rfl (fun hc2 hw2 hm2 => ?_)
  refine f_s [fi (-1), fi (sbS m 14), fi (ngS m 13 (m 13 6))] rfl rfl ?_
  refine b_ixor rfl ?_
  refine b_iand rfl ?_
  refine f_istn [(1, fi (iA (ngS m 13 (m 13 6)) (iX (sbS m 14) (-1)))), (0, .ref 13)] rfl (by decide) hL rfl (fun L1 hL1 => ?_)
  refine f_s [fi (0)] rfl rfl ?_
  refine f_istn [(2, fi (0)), (1, fi (iA (ngS m 13 (m 13 6)) (iX (sbS m 14) (-1)))), (0, .ref 13)] rfl (by decide) hL1 rfl (fun L2 hL2 => ?_)
  have hn0 := hn
  have hp0 := hp
  refine f_iln 0 rfl hL2 rfl ?_
  refine f_s [fi (5), fi (0)] rfl rfl ?_
  refine f_ic rfl (by decide) (by decide) (fun c_9 => absurd (show (5 : Int) ≤ (0 : Int) from c_9) (by decide)) (fun _ => ?_)
  refine f_aln 2 rfl hL2 rfl ?_
  refine m_gfr so13 rfl hw2 rfl (by decide) ?_
  refine f_iln 0 rfl hL2 rfl ?_
  refine f_s [fi (0), .ref 16, fi (0), .ref 16] rfl rfl ?_
  refine m_ia sa16 (m 16 0) rfl hw2 hm2 (by omega) (by omega) (by decide) rfl ?_
  refine f_iln 1 rfl hL2 rfl ?_
  refine f_iln 0 rfl hL2 rfl ?_
  refine b_ishr rfl ?_
  refine f_s [fi (1), fi (iR (iA (ngS m 13 (m 13 6)) (iX (sbS m 14) (-1))) (0)), fi (m 16 0), fi (0), .ref 16] rfl rfl ?_
  refine b_iand rfl ?_
  refine f_iadd rfl ?_
  refine b_w ?_
  refine m_ias sa16 rfl hw2 hm2 (by omega) (by omega) (by decide) i32w_r (fun hc3 hw3 hm3 => ?_)
  refine f_aln 2 rfl hL2 rfl ?_
  refine f_iln 0 rfl hL2 rfl ?_
  refine m_k0 (t87_13 (m := (up m 16 0 (i32w ((m 16 0) + (iA (iR (iA (ngS m 13 (m 13 6)) (iX (sbS m 14) (-1))) (0)) (1)))))) (x := 0) hn0 hp0 (by decide)) hw3 hm3 rfl rfl rfl (m_ar so13 hw3 rfl) rfl (fun hc4 hw4 hm4 => ?_)
  have hn1 : 0 ≤ (stC m 14 15 16 (iA (ngS m 13 (m 13 6)) (iX (sbS m 14) (-1))) 0 0) 3 5 ∧ (stC m 14 15 16 (iA (ngS m 13 (m 13 6)) (iX (sbS m 14) (-1))) 0 0) 3 5 ≤ 4 := by rw [stC_c (by decide) (by decide) (by decide)]; exact hn0
  have hp1 : 0 ≤ (stC m 14 15 16 (iA (ngS m 13 (m 13 6)) (iX (sbS m 14) (-1))) 0 0) 3 6 ∧ (stC m 14 15 16 (iA (ngS m 13 (m 13 6)) (iX (sbS m 14) (-1))) 0 0) 3 6 ≤ 5 := by rw [stC_c (by decide) (by decide) (by decide)]; exact hp0
  refine f_inc 0 [(2, fi (1)), (1, fi (iA (ngS m 13 (m 13 6)) (iX (sbS m 14) (-1)))), (0, .ref 13)] rfl (by decide) hL2 rfl rfl (fun L3 hL3 => ?_)
  refine f_goto rfl ?_
  refine f_iln 0 rfl hL3 rfl ?_
  refine f_s [fi (5), fi (1)] rfl rfl ?_
  refine f_ic rfl (by decide) (by decide) (fun c_9 => absurd (show (5 : Int) ≤ (1 : Int) from c_9) (by decide)) (fun _ => ?_)
  refine f_aln 2 rfl hL3 rfl ?_
  refine m_gfr so13 rfl hw4 rfl (by decide) ?_
  refine f_iln 0 rfl hL3 rfl ?_
  refine f_s [fi (1), .ref 16, fi (1), .ref 16] rfl rfl ?_
  refine m_ia sa16 ((stC m 14 15 16 (iA (ngS m 13 (m 13 6)) (iX (sbS m 14) (-1))) 0 0) 16 1) rfl hw4 hm4 (by omega) (by omega) (by decide) rfl ?_
  refine f_iln 1 rfl hL3 rfl ?_
  refine f_iln 0 rfl hL3 rfl ?_
  refine b_ishr rfl ?_
  refine f_s [fi (1), fi (iR (iA (ngS m 13 (m 13 6)) (iX (sbS m 14) (-1))) (1)), fi ((stC m 14 15 16 (iA (ngS m 13 (m 13 6)) (iX (sbS m 14) (-1))) 0 0) 16 1), fi (1), .ref 16] rfl rfl ?_
  refine b_iand rfl ?_
  refine f_iadd rfl ?_
  refine b_w ?_
  refine m_ias sa16 rfl hw4 hm4 (by omega) (by omega) (by decide) i32w_r (fun hc5 hw5 hm5 => ?_)
  refine f_aln 2 rfl hL3 rfl ?_
  refine f_iln 0 rfl hL3 rfl ?_
  refine m_k0 (t87_13 (m := (up (stC m 14 15 16 (iA (ngS m 13 (m 13 6)) (iX (sbS m 14) (-1))) 0 0) 16 1 (i32w (((stC m 14 15 16 (iA (ngS m 13 (m 13 6)) (iX (sbS m 14) (-1))) 0 0) 16 1) + (iA (iR (iA (ngS m 13 (m 13 6)) (iX (sbS m 14) (-1))) (1)) (1)))))) (x := 1) hn1 hp1 (by decide)) hw5 hm5 rfl rfl rfl (m_ar so13 hw5 rfl) rfl (fun hc6 hw6 hm6 => ?_)
  have hn2 : 0 ≤ (stC (stC m 14 15 16 (iA (ngS m 13 (m 13 6)) (iX (sbS m 14) (-1))) 0 0) 14 15 16 (iA (ngS m 13 (m 13 6)) (iX (sbS m 14) (-1))) 1 1) 3 5 ∧ (stC (stC m 14 15 16 (iA (ngS m 13 (m 13 6)) (iX (sbS m 14) (-1))) 0 0) 14 15 16 (iA (ngS m 13 (m 13 6)) (iX (sbS m 14) (-1))) 1 1) 3 5 ≤ 4 := by rw [stC_c (by decide) (by decide) (by decide)]; exact hn1
  have hp2 : 0 ≤ (stC (stC m 14 15 16 (iA (ngS m 13 (m 13 6)) (iX (sbS m 14) (-1))) 0 0) 14 15 16 (iA (ngS m 13 (m 13 6)) (iX (sbS m 14) (-1))) 1 1) 3 6 ∧ (stC (stC m 14 15 16 (iA (ngS m 13 (m 13 6)) (iX (sbS m 14) (-1))) 0 0) 14 15 16 (iA (ngS m 13 (m 13 6)) (iX (sbS m 14) (-1))) 1 1) 3 6 ≤ 5 := by rw [stC_c (by decide) (by decide) (by decide)]; exact hp1
  refine f_inc 0 [(2, fi (2)), (1, fi (iA (ngS m 13 (m 13 6)) (iX (sbS m 14) (-1)))), (0, .ref 13)] rfl (by decide) hL3 rfl rfl (fun L4 hL4 => ?_)
  refine f_goto rfl ?_
  refine f_iln 0 rfl hL4 rfl ?_
  refine f_s [fi (5), fi (2)] rfl rfl ?_
  refine f_ic rfl (by decide) (by decide) (fun c_9 => absurd (show (5 : Int) ≤ (2 : Int) from c_9) (by decide)) (fun _ => ?_)
  refine f_aln 2 rfl hL4 rfl ?_
  refine m_gfr so13 rfl hw6 rfl (by decide) ?_
  refine f_iln 0 rfl hL4 rfl ?_
  refine f_s [fi (2), .ref 16, fi (2), .ref 16] rfl rfl ?_
  refine m_ia sa16 ((stC (stC m 14 15 16 (iA (ngS m 13 (m 13 6)) (iX (sbS m 14) (-1))) 0 0) 14 15 16 (iA (ngS m 13 (m 13 6)) (iX (sbS m 14) (-1))) 1 1) 16 2) rfl hw6 hm6 (by omega) (by omega) (by decide) rfl ?_
  refine f_iln 1 rfl hL4 rfl ?_
  refine f_iln 0 rfl hL4 rfl ?_
  refine b_ishr rfl ?_
  refine f_s [fi (1), fi (iR (iA (ngS m 13 (m 13 6)) (iX (sbS m 14) (-1))) (2)), fi ((stC (stC m 14 15 16 (iA (ngS m 13 (m 13 6)) (iX (sbS m 14) (-1))) 0 0) 14 15 16 (iA (ngS m 13 (m 13 6)) (iX (sbS m 14) (-1))) 1 1) 16 2), fi (2), .ref 16] rfl rfl ?_
  refine b_iand rfl ?_
  refine f_iadd rfl ?_
  refine b_w ?_
  refine m_ias sa16 rfl hw6 hm6 (by omega) (by omega) (by decide) i32w_r (fun hc7 hw7 hm7 => ?_)
  refine f_aln 2 rfl hL4 rfl ?_
  refine f_iln 0 rfl hL4 rfl ?_
  refine m_k0 (t87_13 (m := (up (stC (stC m 14 15 16 (iA (ngS m 13 (m 13 6)) (iX (sbS m 14) (-1))) 0 0) 14 15 16 (iA (ngS m 13 (m 13 6)) (iX (sbS m 14) (-1))) 1 1) 16 2 (i32w (((stC (stC m 14 15 16 (iA (ngS m 13 (m 13 6)) (iX (sbS m 14) (-1))) 0 0) 14 15 16 (iA (ngS m 13 (m 13 6)) (iX (sbS m 14) (-1))) 1 1) 16 2) + (iA (iR (iA (ngS m 13 (m 13 6)) (iX (sbS m 14) (-1))) (2)) (1)))))) (x := 2) hn2 hp2 (by decide)) hw7 hm7 rfl rfl rfl (m_ar so13 hw7 rfl) rfl (fun hc8 hw8 hm8 => ?_)
  have hn3 : 0 ≤ (stC (stC (stC m 14 15 16 (iA (ngS m 13 (m 13 6)) (iX (sbS m 14) (-1))) 0 0) 14 15 16 (iA (ngS m 13 (m 13 6)) (iX (sbS m 14) (-1))) 1 1) 14 15 16 (iA (ngS m 13 (m 13 6)) (iX (sbS m 14) (-1))) 2 2) 3 5 ∧ (stC (stC (stC m 14 15 16 (iA (ngS m 13 (m 13 6)) (iX (sbS m 14) (-1))) 0 0) 14 15 16 (iA (ngS m 13 (m 13 6)) (iX (sbS m 14) (-1))) 1 1) 14 15 16 (iA (ngS m 13 (m 13 6)) (iX (sbS m 14) (-1))) 2 2) 3 5 ≤ 4 := by rw [stC_c (by decide) (by decide) (by decide)]; exact hn2
  have hp3 : 0 ≤ (stC (stC (stC m 14 15 16 (iA (ngS m 13 (m 13 6)) (iX (sbS m 14) (-1))) 0 0) 14 15 16 (iA (ngS m 13 (m 13 6)) (iX (sbS m 14) (-1))) 1 1) 14 15 16 (iA (ngS m 13 (m 13 6)) (iX (sbS m 14) (-1))) 2 2) 3 6 ∧ (stC (stC (stC m 14 15 16 (iA (ngS m 13 (m 13 6)) (iX (sbS m 14) (-1))) 0 0) 14 15 16 (iA (ngS m 13 (m 13 6)) (iX (sbS m 14) (-1))) 1 1) 14 15 16 (iA (ngS m 13 (m 13 6)) (iX (sbS m 14) (-1))) 2 2) 3 6 ≤ 5 := by rw [stC_c (by decide) (by decide) (by decide)]; exact hp2
  refine f_inc 0 [(2, fi (3)), (1, fi (iA (ngS m 13 (m 13 6)) (iX (sbS m 14) (-1)))), (0, .ref 13)] rfl (by decide) hL4 rfl rfl (fun L5 hL5 => ?_)
  refine f_goto rfl ?_
  refine f_iln 0 rfl hL5 rfl ?_
  refine f_s [fi (5), fi (3)] rfl rfl ?_
  refine f_ic rfl (by decide) (by decide) (fun c_9 => absurd (show (5 : Int) ≤ (3 : Int) from c_9) (by decide)) (fun _ => ?_)
  refine f_aln 2 rfl hL5 rfl ?_
  refine m_gfr so13 rfl hw8 rfl (by decide) ?_
  refine f_iln 0 rfl hL5 rfl ?_
  refine f_s [fi (3), .ref 16, fi (3), .ref 16] rfl rfl ?_
  refine m_ia sa16 ((stC (stC (stC m 14 15 16 (iA (ngS m 13 (m 13 6)) (iX (sbS m 14) (-1))) 0 0) 14 15 16 (iA (ngS m 13 (m 13 6)) (iX (sbS m 14) (-1))) 1 1) 14 15 16 (iA (ngS m 13 (m 13 6)) (iX (sbS m 14) (-1))) 2 2) 16 3) rfl hw8 hm8 (by omega) (by omega) (by decide) rfl ?_
  refine f_iln 1 rfl hL5 rfl ?_
  refine f_iln 0 rfl hL5 rfl ?_
  refine b_ishr rfl ?_
  refine f_s [fi (1), fi (iR (iA (ngS m 13 (m 13 6)) (iX (sbS m 14) (-1))) (3)), fi ((stC (stC (stC m 14 15 16 (iA (ngS m 13 (m 13 6)) (iX (sbS m 14) (-1))) 0 0) 14 15 16 (iA (ngS m 13 (m 13 6)) (iX (sbS m 14) (-1))) 1 1) 14 15 16 (iA (ngS m 13 (m 13 6)) (iX (sbS m 14) (-1))) 2 2) 16 3), fi (3), .ref 16] rfl rfl ?_
  refine b_iand rfl ?_
  refine f_iadd rfl ?_
  refine b_w ?_
  refine m_ias sa16 rfl hw8 hm8 (by omega) (by omega) (by decide) i32w_r (fun hc9 hw9 hm9 => ?_)
  refine f_aln 2 rfl hL5 rfl ?_
  refine f_iln 0 rfl hL5 rfl ?_
  refine m_k0 (t87_13 (m := (up (stC (stC (stC m 14 15 16 (iA (ngS m 13 (m 13 6)) (iX (sbS m 14) (-1))) 0 0) 14 15 16 (iA (ngS m 13 (m 13 6)) (iX (sbS m 14) (-1))) 1 1) 14 15 16 (iA (ngS m 13 (m 13 6)) (iX (sbS m 14) (-1))) 2 2) 16 3 (i32w (((stC (stC (stC m 14 15 16 (iA (ngS m 13 (m 13 6)) (iX (sbS m 14) (-1))) 0 0) 14 15 16 (iA (ngS m 13 (m 13 6)) (iX (sbS m 14) (-1))) 1 1) 14 15 16 (iA (ngS m 13 (m 13 6)) (iX (sbS m 14) (-1))) 2 2) 16 3) + (iA (iR (iA (ngS m 13 (m 13 6)) (iX (sbS m 14) (-1))) (3)) (1)))))) (x := 3) hn3 hp3 (by decide)) hw9 hm9 rfl rfl rfl (m_ar so13 hw9 rfl) rfl (fun hc10 hw10 hm10 => ?_)
  have hn4 : 0 ≤ (stC (stC (stC (stC m 14 15 16 (iA (ngS m 13 (m 13 6)) (iX (sbS m 14) (-1))) 0 0) 14 15 16 (iA (ngS m 13 (m 13 6)) (iX (sbS m 14) (-1))) 1 1) 14 15 16 (iA (ngS m 13 (m 13 6)) (iX (sbS m 14) (-1))) 2 2) 14 15 16 (iA (ngS m 13 (m 13 6)) (iX (sbS m 14) (-1))) 3 3) 3 5 ∧ (stC (stC (stC (stC m 14 15 16 (iA (ngS m 13 (m 13 6)) (iX (sbS m 14) (-1))) 0 0) 14 15 16 (iA (ngS m 13 (m 13 6)) (iX (sbS m 14) (-1))) 1 1) 14 15 16 (iA (ngS m 13 (m 13 6)) (iX (sbS m 14) (-1))) 2 2) 14 15 16 (iA (ngS m 13 (m 13 6)) (iX (sbS m 14) (-1))) 3 3) 3 5 ≤ 4 := by rw [stC_c (by decide) (by decide) (by decide)]; exact hn3
  have hp4 : 0 ≤ (stC (stC (stC (stC m 14 15 16 (iA (ngS m 13 (m 13 6)) (iX (sbS m 14) (-1))) 0 0) 14 15 16 (iA (ngS m 13 (m 13 6)) (iX (sbS m 14) (-1))) 1 1) 14 15 16 (iA (ngS m 13 (m 13 6)) (iX (sbS m 14) (-1))) 2 2) 14 15 16 (iA (ngS m 13 (m 13 6)) (iX (sbS m 14) (-1))) 3 3) 3 6 ∧ (stC (stC (stC (stC m 14 15 16 (iA (ngS m 13 (m 13 6)) (iX (sbS m 14) (-1))) 0 0) 14 15 16 (iA (ngS m 13 (m 13 6)) (iX (sbS m 14) (-1))) 1 1) 14 15 16 (iA (ngS m 13 (m 13 6)) (iX (sbS m 14) (-1))) 2 2) 14 15 16 (iA (ngS m 13 (m 13 6)) (iX (sbS m 14) (-1))) 3 3) 3 6 ≤ 5 := by rw [stC_c (by decide) (by decide) (by decide)]; exact hp3
  refine f_inc 0 [(2, fi (4)), (1, fi (iA (ngS m 13 (m 13 6)) (iX (sbS m 14) (-1)))), (0, .ref 13)] rfl (by decide) hL5 rfl rfl (fun L6 hL6 => ?_)
  refine f_goto rfl ?_
  refine f_iln 0 rfl hL6 rfl ?_
  refine f_s [fi (5), fi (4)] rfl rfl ?_
  refine f_ic rfl (by decide) (by decide) (fun c_9 => absurd (show (5 : Int) ≤ (4 : Int) from c_9) (by decide)) (fun _ => ?_)
  refine f_aln 2 rfl hL6 rfl ?_
  refine m_gfr so13 rfl hw10 rfl (by decide) ?_
  refine f_iln 0 rfl hL6 rfl ?_
  refine f_s [fi (4), .ref 16, fi (4), .ref 16] rfl rfl ?_
  refine m_ia sa16 ((stC (stC (stC (stC m 14 15 16 (iA (ngS m 13 (m 13 6)) (iX (sbS m 14) (-1))) 0 0) 14 15 16 (iA (ngS m 13 (m 13 6)) (iX (sbS m 14) (-1))) 1 1) 14 15 16 (iA (ngS m 13 (m 13 6)) (iX (sbS m 14) (-1))) 2 2) 14 15 16 (iA (ngS m 13 (m 13 6)) (iX (sbS m 14) (-1))) 3 3) 16 4) rfl hw10 hm10 (by omega) (by omega) (by decide) rfl ?_
  refine f_iln 1 rfl hL6 rfl ?_
  refine f_iln 0 rfl hL6 rfl ?_
  refine b_ishr rfl ?_
  refine f_s [fi (1), fi (iR (iA (ngS m 13 (m 13 6)) (iX (sbS m 14) (-1))) (4)), fi ((stC (stC (stC (stC m 14 15 16 (iA (ngS m 13 (m 13 6)) (iX (sbS m 14) (-1))) 0 0) 14 15 16 (iA (ngS m 13 (m 13 6)) (iX (sbS m 14) (-1))) 1 1) 14 15 16 (iA (ngS m 13 (m 13 6)) (iX (sbS m 14) (-1))) 2 2) 14 15 16 (iA (ngS m 13 (m 13 6)) (iX (sbS m 14) (-1))) 3 3) 16 4), fi (4), .ref 16] rfl rfl ?_
  refine b_iand rfl ?_
  refine f_iadd rfl ?_
  refine b_w ?_
  refine m_ias sa16 rfl hw10 hm10 (by omega) (by omega) (by decide) i32w_r (fun hc11 hw11 hm11 => ?_)
  refine f_aln 2 rfl hL6 rfl ?_
  refine f_iln 0 rfl hL6 rfl ?_
  refine m_k0 (t87_13 (m := (up (stC (stC (stC (stC m 14 15 16 (iA (ngS m 13 (m 13 6)) (iX (sbS m 14) (-1))) 0 0) 14 15 16 (iA (ngS m 13 (m 13 6)) (iX (sbS m 14) (-1))) 1 1) 14 15 16 (iA (ngS m 13 (m 13 6)) (iX (sbS m 14) (-1))) 2 2) 14 15 16 (iA (ngS m 13 (m 13 6)) (iX (sbS m 14) (-1))) 3 3) 16 4 (i32w (((stC (stC (stC (stC m 14 15 16 (iA (ngS m 13 (m 13 6)) (iX (sbS m 14) (-1))) 0 0) 14 15 16 (iA (ngS m 13 (m 13 6)) (iX (sbS m 14) (-1))) 1 1) 14 15 16 (iA (ngS m 13 (m 13 6)) (iX (sbS m 14) (-1))) 2 2) 14 15 16 (iA (ngS m 13 (m 13 6)) (iX (sbS m 14) (-1))) 3 3) 16 4) + (iA (iR (iA (ngS m 13 (m 13 6)) (iX (sbS m 14) (-1))) (4)) (1)))))) (x := 4) hn4 hp4 (by decide)) hw11 hm11 rfl rfl rfl (m_ar so13 hw11 rfl) rfl (fun hc12 hw12 hm12 => ?_)
  have hn5 : 0 ≤ (stC (stC (stC (stC (stC m 14 15 16 (iA (ngS m 13 (m 13 6)) (iX (sbS m 14) (-1))) 0 0) 14 15 16 (iA (ngS m 13 (m 13 6)) (iX (sbS m 14) (-1))) 1 1) 14 15 16 (iA (ngS m 13 (m 13 6)) (iX (sbS m 14) (-1))) 2 2) 14 15 16 (iA (ngS m 13 (m 13 6)) (iX (sbS m 14) (-1))) 3 3) 14 15 16 (iA (ngS m 13 (m 13 6)) (iX (sbS m 14) (-1))) 4 4) 3 5 ∧ (stC (stC (stC (stC (stC m 14 15 16 (iA (ngS m 13 (m 13 6)) (iX (sbS m 14) (-1))) 0 0) 14 15 16 (iA (ngS m 13 (m 13 6)) (iX (sbS m 14) (-1))) 1 1) 14 15 16 (iA (ngS m 13 (m 13 6)) (iX (sbS m 14) (-1))) 2 2) 14 15 16 (iA (ngS m 13 (m 13 6)) (iX (sbS m 14) (-1))) 3 3) 14 15 16 (iA (ngS m 13 (m 13 6)) (iX (sbS m 14) (-1))) 4 4) 3 5 ≤ 4 := by rw [stC_c (by decide) (by decide) (by decide)]; exact hn4
  have hp5 : 0 ≤ (stC (stC (stC (stC (stC m 14 15 16 (iA (ngS m 13 (m 13 6)) (iX (sbS m 14) (-1))) 0 0) 14 15 16 (iA (ngS m 13 (m 13 6)) (iX (sbS m 14) (-1))) 1 1) 14 15 16 (iA (ngS m 13 (m 13 6)) (iX (sbS m 14) (-1))) 2 2) 14 15 16 (iA (ngS m 13 (m 13 6)) (iX (sbS m 14) (-1))) 3 3) 14 15 16 (iA (ngS m 13 (m 13 6)) (iX (sbS m 14) (-1))) 4 4) 3 6 ∧ (stC (stC (stC (stC (stC m 14 15 16 (iA (ngS m 13 (m 13 6)) (iX (sbS m 14) (-1))) 0 0) 14 15 16 (iA (ngS m 13 (m 13 6)) (iX (sbS m 14) (-1))) 1 1) 14 15 16 (iA (ngS m 13 (m 13 6)) (iX (sbS m 14) (-1))) 2 2) 14 15 16 (iA (ngS m 13 (m 13 6)) (iX (sbS m 14) (-1))) 3 3) 14 15 16 (iA (ngS m 13 (m 13 6)) (iX (sbS m 14) (-1))) 4 4) 3 6 ≤ 5 := by rw [stC_c (by decide) (by decide) (by decide)]; exact hp4
  refine f_inc 0 [(2, fi (5)), (1, fi (iA (ngS m 13 (m 13 6)) (iX (sbS m 14) (-1)))), (0, .ref 13)] rfl (by decide) hL6 rfl rfl (fun L7 hL7 => ?_)
  refine f_goto rfl ?_
  refine f_iln 0 rfl hL7 rfl ?_
  refine f_s [fi (5), fi (5)] rfl rfl ?_
  refine f_ic rfl (by decide) (by decide) (fun _ => ?_) (fun c_9 => absurd (show (5 : Int) ≤ (5 : Int) from (by decide)) c_9)
  refine f_aln 2 rfl hL7 rfl ?_
  refine f_s [.ref 13, .ref 13] rfl rfl ?_
  refine m_gfi so13 ((stC (stC (stC (stC (stC m 14 15 16 (iA (ngS m 13 (m 13 6)) (iX (sbS m 14) (-1))) 0 0) 14 15 16 (iA (ngS m 13 (m 13 6)) (iX (sbS m 14) (-1))) 1 1) 14 15 16 (iA (ngS m 13 (m 13 6)) (iX (sbS m 14) (-1))) 2 2) 14 15 16 (iA (ngS m 13 (m 13 6)) (iX (sbS m 14) (-1))) 3 3) 14 15 16 (iA (ngS m 13 (m 13 6)) (iX (sbS m 14) (-1))) 4 4) 13 6) rfl hw12 hm12 rfl rfl ?_
  refine f_s [fi (1), fi ((stC (stC (stC (stC (stC m 14 15 16 (iA (ngS m 13 (m 13 6)) (iX (sbS m 14) (-1))) 0 0) 14 15 16 (iA (ngS m 13 (m 13 6)) (iX (sbS m 14) (-1))) 1 1) 14 15 16 (iA (ngS m 13 (m 13 6)) (iX (sbS m 14) (-1))) 2 2) 14 15 16 (iA (ngS m 13 (m 13 6)) (iX (sbS m 14) (-1))) 3 3) 14 15 16 (iA (ngS m 13 (m 13 6)) (iX (sbS m 14) (-1))) 4 4) 13 6), .ref 13] rfl rfl ?_
  refine f_iadd rfl ?_
  refine b_w ?_
  refine m_pf so13 rfl hw12 hm12 rfl rfl i32w_r (fun hc13 hw13 hm13 => ?_)
  refine f_iln 1 rfl hL7 rfl ?_
  refine m_k1 (t65 iA_r) hw13 hm13 rfl rfl rfl rfl rfl (fun hc14 hw14 hm14 => ?_)
  exact f_ret1 rfl ⟨rfl, hw14, hm14⟩)
def roC (m : Nat → Nat → Int) (x : Int) : Nat → Nat → Int := (puC (up (up m 9 4 (iO (m 9 4) (iS (1) (nO m 10 x)))) 9 5 (iO (m 9 5) (iS (1) (x)))) 10 11 x (-9))
theorem t93 {m : Nat → Nat → Int} (hp : 0 ≤ m 3 6 ∧ m 3 6 ≤ 5) {x : Int} (rx : -2147483648 ≤ x ∧ x ≤ 2147483647) (hx : ¬ nO m 10 x = -9) : h_M 93 [.ref 9, fi (x)] m none (roC m x) := h_M_of (R := ev_r93) rfl (fun hc hw hm => by
  have hL : f_L (lv_args 0 [.ref 9, fi (x)]) [(0, .ref 9), (1, fi (x))] := f_L_of rfl
  generalize lv_args 0 [.ref 9, fi (x)] = L at hL
  show x_W none (0, 0, 3, 1, 7, 3, 64, 0, 0, ev_t93) 0 L [] hc 0 0 _
  have hR := gi_R hm
  refine f_aln 0 rfl hL rfl ?_
  refine f_iln 1 rfl hL rfl ?_
  refine m_k1 (t53_9 hp rx) hw hm rfl rfl rfl (m_ar so9 hw rfl) rfl (fun hc1 hw1 hm1 => ?_)
  refine f_istn [(2, fi (nO m 10 x)), (0, .ref 9), (1, fi (x))] rfl (by decide) hL rfl (fun L1 hL1 => ?_)
  refine f_iln 0 rfl hL1 rfl ?_
  refine f_bipush (n := -9) rfl (by decide) ?_
  refine f_ic rfl (nO_r hR 10 x) (by decide) (fun _ => ?_) (fun c_9 => absurd (show ¬ (nO m 10 x : Int) = (-9 : Int) from hx) c_9)
  refine f_aln 1 rfl hL1 rfl ?_
  refine f_s [.ref 9, .ref 9] rfl rfl ?_
  refine m_gfi so9 (m 9 4) rfl hw1 hm1 rfl rfl ?_
  refine f_s [fi (1), fi (m 9 4), .ref 9] rfl rfl ?_
  refine f_iln 0 rfl hL1 rfl ?_
  refine b_ishl rfl ?_
  refine b_ior rfl ?_
  refine m_pf so9 rfl hw1 hm1 rfl rfl iO_r (fun hc2 hw2 hm2 => ?_)
  refine f_aln 1 rfl hL1 rfl ?_
  refine f_s [.ref 9, .ref 9] rfl rfl ?_
  refine m_gfi so9 (m 9 5) rfl hw2 hm2 rfl rfl ?_
  refine f_s [fi (1), fi (m 9 5), .ref 9] rfl rfl ?_
  refine f_iln 2 rfl hL1 rfl ?_
  refine b_ishl rfl ?_
  refine b_ior rfl ?_
  refine m_pf so9 rfl hw2 hm2 rfl rfl iO_r (fun hc3 hw3 hm3 => ?_)
  refine f_aln 1 rfl hL1 rfl ?_
  refine f_iln 2 rfl hL1 rfl ?_
  refine m_k0 (t81_9 (m := (up (up m 9 4 (iO (m 9 4) (iS (1) (nO m 10 x)))) 9 5 (iO (m 9 5) (iS (1) (x))))) hp rx) hw3 hm3 rfl rfl rfl (m_ar so9 hw3 rfl) rfl (fun hc4 hw4 hm4 => ?_)
  exact m_ret0 rfl ⟨rfl, hw4, hm4⟩)
def reC (m : Nat → Nat → Int) : Nat → Nat → Int := if m 17 2 < 14 then up (sav m 9 (19 + (((m 17 1) + (m 17 2)) % (14)).toNat)) 17 2 ((m 17 2) + 1) else up (sav m 9 (19 + (((m 17 1) + (m 17 2)) % (14)).toNat)) 17 1 (((m 17 1) + 1) % 14)
theorem t70 {m : Nat → Nat → Int} (a1 : 0 ≤ m 17 1 ∧ m 17 1 ≤ 13) (a2 : 0 ≤ m 17 2 ∧ m 17 2 ≤ 14) : h_M 70 [.ref 17, .ref 9] m none (reC m) := h_M_of (R := ev_r70) rfl (fun hc hw hm => by
  have hL : f_L (lv_args 0 [.ref 17, .ref 9]) [(0, .ref 17), (1, .ref 9)] := f_L_of rfl
  generalize lv_args 0 [.ref 17, .ref 9] = L at hL
  show x_W none (0, 0, 2, 1, 1, 2, 47, 0, 0, ev_t70) 0 L [] hc 0 0 _
  have hR := gi_R hm
  refine f_aln 1 rfl hL rfl ?_
  refine f_aln 0 rfl hL rfl ?_
  refine m_gfr so17 rfl hw rfl (by decide) ?_
  refine f_aln 0 rfl hL rfl ?_
  refine m_gfi so17 (m 17 1) rfl hw hm rfl rfl ?_
  refine f_aln 0 rfl hL rfl ?_
  refine m_gfi so17 (m 17 2) rfl hw hm rfl rfl ?_
  refine f_iadd rfl ?_
  refine f_bipush (n := 14) rfl (by decide) ?_
  refine m_k1 (t68 (by omega) (by omega)) hw hm rfl rfl rfl rfl rfl (fun hc1 hw1 hm1 => ?_)
  refine m_aa sr18 rfl hw1 (by omega) (by omega) (by decide) ?_
  refine m_k0 (t69_9 (sa_row (by omega)) (by omega) (by omega) (by omega) (by omega)) hw1 hm1 rfl rfl rfl (m_ar so9 hw1 rfl) rfl (fun hc2 hw2 hm2 => ?_)
  have e1 : (sav m 9 (19 + (((m 17 1) + (m 17 2)) % (14)).toNat)) 17 1 = m 17 1 := sav_ne (by omega)
  have e2 : (sav m 9 (19 + (((m 17 1) + (m 17 2)) % (14)).toNat)) 17 2 = m 17 2 := sav_ne (by omega)
  refine f_aln 0 rfl hL rfl ?_
  refine m_gfi so17 (m 17 2) rfl hw2 hm2 rfl e2 ?_
  refine f_bipush (n := 14) rfl (by decide) ?_
  refine f_ic rfl (by omega) (by omega) (fun c1 => ?_) (fun c1 => ?_)
  · have c1 : (14 : Int) ≤ (m 17 2 : Int) := c1
    refine f_aln 0 rfl hL rfl ?_
    refine f_aln 0 rfl hL rfl ?_
    refine m_gfi so17 (m 17 1) rfl hw2 hm2 rfl e1 ?_
    refine f_s [fi (1), fi (m 17 1), .ref 17] rfl rfl ?_
    refine f_iadd rfl ?_
    refine f_bipush (n := 14) rfl (by decide) ?_
    refine m_k1 (t68 (by omega) (by omega)) hw2 hm2 rfl rfl rfl rfl rfl (fun hc3 hw3 hm3 => ?_)
    refine m_pf so17 rfl hw3 hm3 rfl rfl (by omega) (fun hc4 hw4 hm4 => ?_)
    exact m_ret0 rfl ⟨rfl, hw4, by rw [hm4]; unfold reC; rw [if_neg (by omega)]⟩
  · have c1 : ¬ ((14 : Int) ≤ (m 17 2 : Int)) := c1
    refine f_aln 0 rfl hL rfl ?_
    refine f_s [.ref 17, .ref 17] rfl rfl ?_
    refine m_gfi so17 (m 17 2) rfl hw2 hm2 rfl e2 ?_
    refine f_s [fi (1), fi (m 17 2), .ref 17] rfl rfl ?_
    refine f_iadd rfl ?_
    refine m_pf so17 rfl hw2 hm2 rfl rfl (by omega) (fun hc5 hw5 hm5 => ?_)
    refine f_goto rfl ?_
    exact m_ret0 rfl ⟨rfl, hw5, by rw [hm5]; unfold reC; rw [if_pos (by omega)]⟩)
theorem t98 {m : Nat → Nat → Int} : h_M 98 [.ref 17] m (some (fi (m 17 2))) m := h_M_of (R := ev_r98) rfl (fun hc hw hm => by
  have hL : f_L (lv_args 0 [.ref 17]) [(0, .ref 17)] := f_L_of rfl
  generalize lv_args 0 [.ref 17] = L at hL
  show x_W none (1, 0, 1, 0, 1, 0, 0, 0, 0, ev_t98) 0 L [] hc 0 0 _
  have hR := gi_R hm
  refine f_aln 0 rfl hL rfl ?_
  refine m_gfi so17 (m 17 2) rfl hw hm rfl rfl ?_
  exact f_ret1 rfl ⟨rfl, hw, hm⟩)
theorem t97_no {m : Nat → Nat → Int} (a1 : 0 ≤ m 17 1 ∧ m 17 1 ≤ 13) (a2 : 0 ≤ m 17 2 ∧ m 17 2 ≤ 14) (hs : m 17 2 < 1) : h_M 97 [.ref 17, .ref 9] m (some (fi (0))) m := h_M_of (R := ev_r97) rfl (fun hc hw hm => by
  have hL : f_L (lv_args 0 [.ref 17, .ref 9]) [(0, .ref 17), (1, .ref 9)] := f_L_of rfl
  generalize lv_args 0 [.ref 17, .ref 9] = L at hL
  show x_W none (2, 0, 2, 1, 1, 2, 47, 0, 0, ev_t97) 0 L [] hc 0 0 _
  have hR := gi_R hm
  refine f_aln 0 rfl hL rfl ?_
  refine m_gfi so17 (m 17 2) rfl hw hm rfl rfl ?_
  refine f_s [fi (1), fi (m 17 2)] rfl rfl ?_
  refine f_ic rfl (by omega) (by omega) (fun c_9 => absurd (show (1 : Int) ≤ (m 17 2 : Int) from c_9) (by omega)) (fun _ => ?_)
  refine f_s [fi (0)] rfl rfl ?_
  exact f_ret2 rfl (Or.inl rfl) ⟨rfl, hw, hm⟩)
def tbC (m : Nat → Nat → Int) : Nat → Nat → Int := (lod (up m 17 2 ((m 17 2) - 1)) 9 (19 + (((m 17 1) + ((m 17 2) - 1)) % (14)).toNat))
theorem t97_ok {m : Nat → Nat → Int} (a1 : 0 ≤ m 17 1 ∧ m 17 1 ≤ 13) (a2 : 0 ≤ m 17 2 ∧ m 17 2 ≤ 14) (hs : ¬ m 17 2 < 1) : h_M 97 [.ref 17, .ref 9] m (some (fi (1))) (tbC m) := h_M_of (R := ev_r97) rfl (fun hc hw hm => by
  have hL : f_L (lv_args 0 [.ref 17, .ref 9]) [(0, .ref 17), (1, .ref 9)] := f_L_of rfl
  generalize lv_args 0 [.ref 17, .ref 9] = L at hL
  show x_W none (2, 0, 2, 1, 1, 2, 47, 0, 0, ev_t97) 0 L [] hc 0 0 _
  have hR := gi_R hm
  refine f_aln 0 rfl hL rfl ?_
  refine m_gfi so17 (m 17 2) rfl hw hm rfl rfl ?_
  refine f_s [fi (1), fi (m 17 2)] rfl rfl ?_
  refine f_ic rfl (by omega) (by omega) (fun _ => ?_) (fun c_9 => absurd (show (1 : Int) ≤ (m 17 2 : Int) from (by omega)) c_9)
  refine f_aln 0 rfl hL rfl ?_
  refine f_s [.ref 17, .ref 17] rfl rfl ?_
  refine m_gfi so17 (m 17 2) rfl hw hm rfl rfl ?_
  refine f_s [fi (1), fi (m 17 2), .ref 17] rfl rfl ?_
  refine f_isub rfl ?_
  refine m_pf so17 rfl hw hm rfl rfl (by omega) (fun hc1 hw1 hm1 => ?_)
  refine f_aln 1 rfl hL rfl ?_
  refine f_aln 0 rfl hL rfl ?_
  refine m_gfr so17 rfl hw1 rfl (by decide) ?_
  refine f_aln 0 rfl hL rfl ?_
  refine m_gfi so17 (m 17 1) rfl hw1 hm1 rfl rfl ?_
  refine f_aln 0 rfl hL rfl ?_
  refine m_gfi so17 ((m 17 2) - 1) rfl hw1 hm1 rfl rfl ?_
  refine f_iadd rfl ?_
  refine f_bipush (n := 14) rfl (by decide) ?_
  refine m_k1 (t68 (by omega) (by omega)) hw1 hm1 rfl rfl rfl rfl rfl (fun hc2 hw2 hm2 => ?_)
  refine m_aa sr18 rfl hw2 (by omega) (by omega) (by decide) ?_
  refine m_k0 (t96_9 (m := (up m 17 2 ((m 17 2) - 1))) (sa_row (by omega)) (by omega) (by omega) (by omega) (by omega)) hw2 hm2 rfl rfl rfl (m_ar so9 hw2 rfl) rfl (fun hc3 hw3 hm3 => ?_)
  refine f_s [fi (1)] rfl rfl ?_
  exact f_ret2 rfl (Or.inr rfl) ⟨rfl, hw3, hm3⟩)
theorem t191 {m : Nat → Nat → Int} {x : Int} (rx : -2147483648 ≤ x ∧ x ≤ 2147483647) : h_M 191 [.ref 33, fi (x)] m (some (fi (bI (decide (0 ≤ x ∧ x < 2))))) m := h_M_of (R := ev_r191) rfl (fun hc hw hm => by
  have hL : f_L (lv_args 0 [.ref 33, fi (x)]) [(0, .ref 33), (1, fi (x))] := f_L_of rfl
  generalize lv_args 0 [.ref 33, fi (x)] = L at hL
  show x_W none (2, 0, 2, 1, 8, 0, 0, 0, 0, ev_t191) 0 L [] hc 0 0 _
  have hR := gi_R hm
  refine f_iln 1 rfl hL rfl ?_
  refine f_if rfl (by omega) (fun c1 => ?_) (fun c1 => ?_)
  · have c1 : (x : Int) < (0 : Int) := c1
    refine f_s [fi (0)] rfl rfl ?_
    exact f_ret2 rfl (Or.inl rfl) ⟨by rw [decide_eq_false (by omega)]; rfl, hw, hm⟩
  · have c1 : ¬ ((x : Int) < (0 : Int)) := c1
    refine f_iln 1 rfl hL rfl ?_
    refine f_s [fi (2), fi (x)] rfl rfl ?_
    refine f_ic rfl (by omega) (by omega) (fun c2 => ?_) (fun c2 => ?_)
    · have c2 : (2 : Int) ≤ (x : Int) := c2
      refine f_s [fi (0)] rfl rfl ?_
      exact f_ret2 rfl (Or.inl rfl) ⟨by rw [decide_eq_false (by omega)]; rfl, hw, hm⟩
    · have c2 : ¬ ((2 : Int) ≤ (x : Int)) := c2
      refine f_s [fi (1)] rfl rfl ?_
      refine f_goto rfl ?_
      exact f_ret2 rfl (Or.inr rfl) ⟨by rw [decide_eq_true (by omega)]; rfl, hw, hm⟩)
theorem t192_no {m : Nat → Nat → Int} {x : Int} (rx : -2147483648 ≤ x ∧ x ≤ 2147483647) (hx : ¬ (0 ≤ x ∧ x < 2)) : h_M 192 [.ref 33, fi (x), .ref 9] m (some (fi (0))) m := h_M_of (R := ev_r192) rfl (fun hc hw hm => by
  have hL : f_L (lv_args 0 [.ref 33, fi (x), .ref 9]) [(0, .ref 33), (1, fi (x)), (2, .ref 9)] := f_L_of rfl
  generalize lv_args 0 [.ref 33, fi (x), .ref 9] = L at hL
  show x_W none (2, 0, 3, 2, 8, 2, 47, 0, 0, ev_t192) 0 L [] hc 0 0 _
  have hR := gi_R hm
  refine f_aln 0 rfl hL rfl ?_
  refine f_iln 1 rfl hL rfl ?_
  refine m_k1 (t191 rx) hw hm rfl rfl rfl (m_ar so33 hw rfl) rfl (fun hc1 hw1 hm1 => ?_)
  refine f_if rfl (bI_r _) (fun c_9 => absurd (show ¬ (bI (decide (0 ≤ x ∧ x < 2)) : Int) = (0 : Int) from c_9) (by rw [decide_eq_false hx]; exact fun z => z rfl)) (fun _ => ?_)
  refine f_s [fi (0)] rfl rfl ?_
  exact f_ret2 rfl (Or.inl rfl) ⟨rfl, hw1, hm1⟩)
def keC (m : Nat → Nat → Int) (x : Int) : Nat → Nat → Int := (up (sav m 9 (35 + (x).toNat)) 37 (x).toNat (1))
theorem t192_ok {m : Nat → Nat → Int} {x : Int} (rx : -2147483648 ≤ x ∧ x ≤ 2147483647) (hx : 0 ≤ x ∧ x < 2) : h_M 192 [.ref 33, fi (x), .ref 9] m (some (fi (1))) (keC m x) := h_M_of (R := ev_r192) rfl (fun hc hw hm => by
  have hL : f_L (lv_args 0 [.ref 33, fi (x), .ref 9]) [(0, .ref 33), (1, fi (x)), (2, .ref 9)] := f_L_of rfl
  generalize lv_args 0 [.ref 33, fi (x), .ref 9] = L at hL
  show x_W none (2, 0, 3, 2, 8, 2, 47, 0, 0, ev_t192) 0 L [] hc 0 0 _
  have hR := gi_R hm
  refine f_aln 0 rfl hL rfl ?_
  refine f_iln 1 rfl hL rfl ?_
  refine m_k1 (t191 rx) hw hm rfl rfl rfl (m_ar so33 hw rfl) rfl (fun hc1 hw1 hm1 => ?_)
  refine f_if rfl (bI_r _) (fun _ => ?_) (fun c_9 => absurd (show ¬ (bI (decide (0 ≤ x ∧ x < 2)) : Int) = (0 : Int) from (by rw [decide_eq_true hx]; decide)) c_9)
  refine f_aln 2 rfl hL rfl ?_
  refine f_aln 0 rfl hL rfl ?_
  refine m_gfr so33 rfl hw1 rfl (by decide) ?_
  refine f_iln 1 rfl hL rfl ?_
  refine m_aa sr34 rfl hw1 (by omega) (by omega) (by decide) ?_
  refine m_k0 (t69_9 (sa_slot (by omega)) (by omega) (by omega) (by omega) (by omega)) hw1 hm1 rfl rfl rfl (m_ar so9 hw1 rfl) rfl (fun hc2 hw2 hm2 => ?_)
  refine f_aln 0 rfl hL rfl ?_
  refine m_gfr so33 rfl hw2 rfl (by decide) ?_
  refine f_iln 1 rfl hL rfl ?_
  refine f_s [fi (1), fi (x), .ref 37] rfl rfl ?_
  refine m_bas sa37 rfl hw2 hm2 (by omega) (by omega) (by decide) (by omega) (fun hc3 hw3 hm3 => ?_)
  refine f_s [fi (1)] rfl rfl ?_
  exact f_ret2 rfl (Or.inr rfl) ⟨rfl, hw3, hm3⟩)
theorem t196_no {m : Nat → Nat → Int} {x : Int} (rx : -2147483648 ≤ x ∧ x ≤ 2147483647) (hx : 0 ≤ x ∧ x < 2) {kv : Int} (hk : m 37 (x).toNat = kv) (rk : -2147483648 ≤ kv ∧ kv ≤ 2147483647) (hk0 : kv = 0) : h_M 196 [.ref 33, fi (x), .ref 9] m (some (fi (0))) m := h_M_of (R := ev_r196) rfl (fun hc hw hm => by
  have hL : f_L (lv_args 0 [.ref 33, fi (x), .ref 9]) [(0, .ref 33), (1, fi (x)), (2, .ref 9)] := f_L_of rfl
  generalize lv_args 0 [.ref 33, fi (x), .ref 9] = L at hL
  show x_W none (2, 0, 3, 2, 8, 2, 47, 0, 0, ev_t196) 0 L [] hc 0 0 _
  have hR := gi_R hm
  refine f_aln 0 rfl hL rfl ?_
  refine f_iln 1 rfl hL rfl ?_
  refine m_k1 (t191 rx) hw hm rfl rfl rfl (m_ar so33 hw rfl) rfl (fun hc1 hw1 hm1 => ?_)
  refine f_if rfl (bI_r _) (fun c_9 => absurd (show (bI (decide (0 ≤ x ∧ x < 2)) : Int) = (0 : Int) from c_9) (by rw [decide_eq_true hx]; decide)) (fun _ => ?_)
  refine f_aln 0 rfl hL rfl ?_
  refine m_gfr so33 rfl hw1 rfl (by decide) ?_
  refine f_iln 1 rfl hL rfl ?_
  refine m_ba sa37 (kv) rfl hw1 hm1 (by omega) (by omega) (by decide) hk ?_
  refine f_if rfl rk (fun c_9 => absurd (show ¬ (kv : Int) = (0 : Int) from c_9) (fun z => z hk0)) (fun _ => ?_)
  refine f_s [fi (0)] rfl rfl ?_
  exact f_ret2 rfl (Or.inl rfl) ⟨rfl, hw1, hm1⟩)
def loC (m : Nat → Nat → Int) (x : Int) : Nat → Nat → Int := (lod m 9 (35 + (x).toNat))
theorem t196_ok {m : Nat → Nat → Int} {x : Int} (rx : -2147483648 ≤ x ∧ x ≤ 2147483647) (hx : 0 ≤ x ∧ x < 2) {kv : Int} (hk : m 37 (x).toNat = kv) (rk : -2147483648 ≤ kv ∧ kv ≤ 2147483647) (hk0 : ¬ kv = 0) : h_M 196 [.ref 33, fi (x), .ref 9] m (some (fi (1))) (loC m x) := h_M_of (R := ev_r196) rfl (fun hc hw hm => by
  have hL : f_L (lv_args 0 [.ref 33, fi (x), .ref 9]) [(0, .ref 33), (1, fi (x)), (2, .ref 9)] := f_L_of rfl
  generalize lv_args 0 [.ref 33, fi (x), .ref 9] = L at hL
  show x_W none (2, 0, 3, 2, 8, 2, 47, 0, 0, ev_t196) 0 L [] hc 0 0 _
  have hR := gi_R hm
  refine f_aln 0 rfl hL rfl ?_
  refine f_iln 1 rfl hL rfl ?_
  refine m_k1 (t191 rx) hw hm rfl rfl rfl (m_ar so33 hw rfl) rfl (fun hc1 hw1 hm1 => ?_)
  refine f_if rfl (bI_r _) (fun c_9 => absurd (show (bI (decide (0 ≤ x ∧ x < 2)) : Int) = (0 : Int) from c_9) (by rw [decide_eq_true hx]; decide)) (fun _ => ?_)
  refine f_aln 0 rfl hL rfl ?_
  refine m_gfr so33 rfl hw1 rfl (by decide) ?_
  refine f_iln 1 rfl hL rfl ?_
  refine m_ba sa37 (kv) rfl hw1 hm1 (by omega) (by omega) (by decide) hk ?_
  refine f_if rfl rk (fun _ => ?_) (fun c_9 => absurd (show ¬ (kv : Int) = (0 : Int) from hk0) c_9)
  refine f_aln 2 rfl hL rfl ?_
  refine f_aln 0 rfl hL rfl ?_
  refine m_gfr so33 rfl hw1 rfl (by decide) ?_
  refine f_iln 1 rfl hL rfl ?_
  refine m_aa sr34 rfl hw1 (by omega) (by omega) (by decide) ?_
  refine m_k0 (t96_9 (sa_slot (by omega)) (by omega) (by omega) (by omega) (by omega)) hw1 hm1 rfl rfl rfl (m_ar so9 hw1 rfl) rfl (fun hc2 hw2 hm2 => ?_)
  refine f_s [fi (1)] rfl rfl ?_
  exact f_ret2 rfl (Or.inr rfl) ⟨rfl, hw2, hm2⟩)
