/-! hall of both -/
/-- the plan of the class holds these names and people -/
def cP (m : Nat → Nat → Int) (ns : pNs) (ps : pPs) : Prop := m 3 5 = (ns.length : Int) ∧ m 3 6 = (ps.length : Int) ∧ (∀ (k : Nat) (e : Int × Int), ns[k]? = some e → m 4 k = e.1 ∧ m 5 k = e.2) ∧ (∀ (k : Nat) (e : Int × Int × Int), ps[k]? = some e → m 6 k = e.1 ∧ m 7 k = e.2.1 ∧ m 8 k = e.2.2)
theorem cP_n {m m' : Nat → Nat → Int} {ns : pNs} {ps : pPs} {v1 v2 : Int} (h : cP m ns ps) (h5 : m' 3 5 = (ns.length : Int) + 1) (h6 : m' 3 6 = m 3 6) (hp : ∀ i, m' 6 i = m 6 i ∧ m' 7 i = m 7 i ∧ m' 8 i = m 8 i) (hn : ∀ i, m' 4 i = (if i = ns.length then v1 else m 4 i) ∧ m' 5 i = (if i = ns.length then v2 else m 5 i)) : cP m' (ns ++ [(v1, v2)]) ps := by
  obtain ⟨a1, a2, a3, a4⟩ := h
  refine ⟨by rw [h5, List.length_append]; rfl, by rw [h6]; exact a2, fun k e hk => ?_, fun k e hk => by rw [(hp k).1, (hp k).2.1, (hp k).2.2]; exact a4 k e hk⟩
  rw [(hn k).1, (hn k).2]
  rw [List.getElem?_append] at hk
  split at hk
  · rename_i hl
    rw [if_neg (by omega), if_neg (by omega)]
    exact a3 k e hk
  · rename_i hl
    have hz := (List.getElem?_eq_some_iff.mp hk).1
    simp only [List.length_singleton] at hz
    have e0 : k = ns.length := by omega
    subst e0
    rw [Nat.sub_self] at hk
    cases hk
    rw [if_pos rfl, if_pos rfl]
    exact ⟨rfl, rfl⟩
theorem cP_p {m m' : Nat → Nat → Int} {ns : pNs} {ps : pPs} {v1 v2 v3 : Int} (h : cP m ns ps) (h5 : m' 3 5 = m 3 5) (h6 : m' 3 6 = (ps.length : Int) + 1) (hn : ∀ i, m' 4 i = m 4 i ∧ m' 5 i = m 5 i) (hp : ∀ i, m' 6 i = (if i = ps.length then v1 else m 6 i) ∧ m' 7 i = (if i = ps.length then v2 else m 7 i) ∧ m' 8 i = (if i = ps.length then v3 else m 8 i)) : cP m' ns (ps ++ [(v1, v2, v3)]) := by
  obtain ⟨a1, a2, a3, a4⟩ := h
  refine ⟨by rw [h5]; exact a1, by rw [h6, List.length_append]; rfl, fun k e hk => by rw [(hn k).1, (hn k).2]; exact a3 k e hk, fun k e hk => ?_⟩
  rw [(hp k).1, (hp k).2.1, (hp k).2.2]
  rw [List.getElem?_append] at hk
  split at hk
  · rename_i hl
    rw [if_neg (by omega), if_neg (by omega), if_neg (by omega)]
    exact a4 k e hk
  · rename_i hl
    have hz := (List.getElem?_eq_some_iff.mp hk).1
    simp only [List.length_singleton] at hz
    have e0 : k = ps.length := by omega
    subst e0
    rw [Nat.sub_self] at hk
    cases hk
    rw [if_pos rfl, if_pos rfl, if_pos rfl]
    exact ⟨rfl, rfl, rfl⟩
theorem t2_10 {m : Nat → Nat → Int} {v : Int} (rv : -2147483648 ≤ v ∧ v ≤ 2147483647) : h_M 2 [.ref 10, fi (v)] m none (up (up (up (up (up m 10 0 (v)) 10 1 (v)) 10 2 (v)) 10 3 (v)) 10 4 (v)) := h_M_of (R := ev_r2) rfl (fun hc hw hm => by
  have hL : f_L (lv_args 0 [.ref 10, fi (v)]) [(0, .ref 10), (1, fi (v))] := f_L_of rfl
  generalize lv_args 0 [.ref 10, fi (v)] = L at hL
  show x_W none (0, 0, 4, 2, 0, 0, 0, 0, 0, ev_t2) 0 L [] hc 0 0 _
  have hR := gi_R hm
  refine f_s [fi (0)] rfl rfl ?_
  refine f_istn [(2, fi (0)), (0, .ref 10), (1, fi (v))] rfl (by decide) hL rfl (fun L1 hL1 => ?_)
  refine f_aln 1 rfl hL1 rfl ?_
  refine m_al sa10 rfl hw (by decide) ?_
  refine f_istn [(3, fi (5)), (2, fi (0)), (0, .ref 10), (1, fi (v))] rfl (by decide) hL1 rfl (fun L2 hL2 => ?_)
  refine f_iln 1 rfl hL2 rfl ?_
  refine f_iln 0 rfl hL2 rfl ?_
  refine f_ic rfl (by decide) (by decide) (fun c_9 => absurd (show (5 : Int) ≤ (0 : Int) from c_9) (by decide)) (fun _ => ?_)
  refine f_aln 2 rfl hL2 rfl ?_
  refine f_iln 1 rfl hL2 rfl ?_
  refine f_iln 3 rfl hL2 rfl ?_
  refine m_ias sa10 rfl hw hm (by omega) (by omega) (by decide) (by omega) (fun hc1 hw1 hm1 => ?_)
  refine f_inc 1 [(2, fi (1)), (3, fi (5)), (0, .ref 10), (1, fi (v))] rfl (by decide) hL2 rfl rfl (fun L3 hL3 => ?_)
  refine f_goto rfl ?_
  refine f_iln 0 rfl hL3 rfl ?_
  refine f_iln 1 rfl hL3 rfl ?_
  refine f_ic rfl (by decide) (by decide) (fun c_9 => absurd (show (5 : Int) ≤ (1 : Int) from c_9) (by decide)) (fun _ => ?_)
  refine f_aln 2 rfl hL3 rfl ?_
  refine f_iln 0 rfl hL3 rfl ?_
  refine f_iln 3 rfl hL3 rfl ?_
  refine m_ias sa10 rfl hw1 hm1 (by omega) (by omega) (by decide) (by omega) (fun hc2 hw2 hm2 => ?_)
  refine f_inc 0 [(2, fi (2)), (3, fi (5)), (0, .ref 10), (1, fi (v))] rfl (by decide) hL3 rfl rfl (fun L4 hL4 => ?_)
  refine f_goto rfl ?_
  refine f_iln 0 rfl hL4 rfl ?_
  refine f_iln 1 rfl hL4 rfl ?_
  refine f_ic rfl (by decide) (by decide) (fun c_9 => absurd (show (5 : Int) ≤ (2 : Int) from c_9) (by decide)) (fun _ => ?_)
  refine f_aln 2 rfl hL4 rfl ?_
  refine f_iln 0 rfl hL4 rfl ?_
  refine f_iln 3 rfl hL4 rfl ?_
  refine m_ias sa10 rfl hw2 hm2 (by omega) (by omega) (by decide) (by omega) (fun hc3 hw3 hm3 => ?_)
  refine f_inc 0 [(2, fi (3)), (3, fi (5)), (0, .ref 10), (1, fi (v))] rfl (by decide) hL4 rfl rfl (fun L5 hL5 => ?_)
  refine f_goto rfl ?_
  refine f_iln 0 rfl hL5 rfl ?_
  refine f_iln 1 rfl hL5 rfl ?_
  refine f_ic rfl (by decide) (by decide) (fun c_9 => absurd (show (5 : Int) ≤ (3 : Int) from c_9) (by decide)) (fun _ => ?_)
  refine f_aln 2 rfl hL5 rfl ?_
  refine f_iln 0 rfl hL5 rfl ?_
  refine f_iln 3 rfl hL5 rfl ?_
  refine m_ias sa10 rfl hw3 hm3 (by omega) (by omega) (by decide) (by omega) (fun hc4 hw4 hm4 => ?_)
  refine f_inc 0 [(2, fi (4)), (3, fi (5)), (0, .ref 10), (1, fi (v))] rfl (by decide) hL5 rfl rfl (fun L6 hL6 => ?_)
  refine f_goto rfl ?_
  refine f_iln 0 rfl hL6 rfl ?_
  refine f_iln 1 rfl hL6 rfl ?_
  refine f_ic rfl (by decide) (by decide) (fun c_9 => absurd (show (5 : Int) ≤ (4 : Int) from c_9) (by decide)) (fun _ => ?_)
  refine f_aln 2 rfl hL6 rfl ?_
  refine f_iln 0 rfl hL6 rfl ?_
  refine f_iln 3 rfl hL6 rfl ?_
  refine m_ias sa10 rfl hw4 hm4 (by omega) (by omega) (by decide) (by omega) (fun hc5 hw5 hm5 => ?_)
  refine f_inc 0 [(2, fi (5)), (3, fi (5)), (0, .ref 10), (1, fi (v))] rfl (by decide) hL6 rfl rfl (fun L7 hL7 => ?_)
  refine f_goto rfl ?_
  refine f_iln 0 rfl hL7 rfl ?_
  refine f_iln 1 rfl hL7 rfl ?_
  refine f_ic rfl (by decide) (by decide) (fun _ => ?_) (fun c_9 => absurd (show (5 : Int) ≤ (5 : Int) from (by decide)) c_9)
  exact m_ret0 rfl ⟨rfl, hw5, hm5⟩)
theorem t2_11 {m : Nat → Nat → Int} {v : Int} (rv : -2147483648 ≤ v ∧ v ≤ 2147483647) : h_M 2 [.ref 11, fi (v)] m none (up (up (up (up (up m 11 0 (v)) 11 1 (v)) 11 2 (v)) 11 3 (v)) 11 4 (v)) := h_M_of (R := ev_r2) rfl (fun hc hw hm => by
  have hL : f_L (lv_args 0 [.ref 11, fi (v)]) [(0, .ref 11), (1, fi (v))] := f_L_of rfl
  generalize lv_args 0 [.ref 11, fi (v)] = L at hL
  show x_W none (0, 0, 4, 2, 0, 0, 0, 0, 0, ev_t2) 0 L [] hc 0 0 _
  have hR := gi_R hm
  refine f_s [fi (0)] rfl rfl ?_
  refine f_istn [(2, fi (0)), (0, .ref 11), (1, fi (v))] rfl (by decide) hL rfl (fun L1 hL1 => ?_)
  refine f_aln 1 rfl hL1 rfl ?_
  refine m_al sa11 rfl hw (by decide) ?_
  refine f_istn [(3, fi (5)), (2, fi (0)), (0, .ref 11), (1, fi (v))] rfl (by decide) hL1 rfl (fun L2 hL2 => ?_)
  refine f_iln 1 rfl hL2 rfl ?_
  refine f_iln 0 rfl hL2 rfl ?_
  refine f_ic rfl (by decide) (by decide) (fun c_9 => absurd (show (5 : Int) ≤ (0 : Int) from c_9) (by decide)) (fun _ => ?_)
  refine f_aln 2 rfl hL2 rfl ?_
  refine f_iln 1 rfl hL2 rfl ?_
  refine f_iln 3 rfl hL2 rfl ?_
  refine m_ias sa11 rfl hw hm (by omega) (by omega) (by decide) (by omega) (fun hc1 hw1 hm1 => ?_)
  refine f_inc 1 [(2, fi (1)), (3, fi (5)), (0, .ref 11), (1, fi (v))] rfl (by decide) hL2 rfl rfl (fun L3 hL3 => ?_)
  refine f_goto rfl ?_
  refine f_iln 0 rfl hL3 rfl ?_
  refine f_iln 1 rfl hL3 rfl ?_
  refine f_ic rfl (by decide) (by decide) (fun c_9 => absurd (show (5 : Int) ≤ (1 : Int) from c_9) (by decide)) (fun _ => ?_)
  refine f_aln 2 rfl hL3 rfl ?_
  refine f_iln 0 rfl hL3 rfl ?_
  refine f_iln 3 rfl hL3 rfl ?_
  refine m_ias sa11 rfl hw1 hm1 (by omega) (by omega) (by decide) (by omega) (fun hc2 hw2 hm2 => ?_)
  refine f_inc 0 [(2, fi (2)), (3, fi (5)), (0, .ref 11), (1, fi (v))] rfl (by decide) hL3 rfl rfl (fun L4 hL4 => ?_)
  refine f_goto rfl ?_
  refine f_iln 0 rfl hL4 rfl ?_
  refine f_iln 1 rfl hL4 rfl ?_
  refine f_ic rfl (by decide) (by decide) (fun c_9 => absurd (show (5 : Int) ≤ (2 : Int) from c_9) (by decide)) (fun _ => ?_)
  refine f_aln 2 rfl hL4 rfl ?_
  refine f_iln 0 rfl hL4 rfl ?_
  refine f_iln 3 rfl hL4 rfl ?_
  refine m_ias sa11 rfl hw2 hm2 (by omega) (by omega) (by decide) (by omega) (fun hc3 hw3 hm3 => ?_)
  refine f_inc 0 [(2, fi (3)), (3, fi (5)), (0, .ref 11), (1, fi (v))] rfl (by decide) hL4 rfl rfl (fun L5 hL5 => ?_)
  refine f_goto rfl ?_
  refine f_iln 0 rfl hL5 rfl ?_
  refine f_iln 1 rfl hL5 rfl ?_
  refine f_ic rfl (by decide) (by decide) (fun c_9 => absurd (show (5 : Int) ≤ (3 : Int) from c_9) (by decide)) (fun _ => ?_)
  refine f_aln 2 rfl hL5 rfl ?_
  refine f_iln 0 rfl hL5 rfl ?_
  refine f_iln 3 rfl hL5 rfl ?_
  refine m_ias sa11 rfl hw3 hm3 (by omega) (by omega) (by decide) (by omega) (fun hc4 hw4 hm4 => ?_)
  refine f_inc 0 [(2, fi (4)), (3, fi (5)), (0, .ref 11), (1, fi (v))] rfl (by decide) hL5 rfl rfl (fun L6 hL6 => ?_)
  refine f_goto rfl ?_
  refine f_iln 0 rfl hL6 rfl ?_
  refine f_iln 1 rfl hL6 rfl ?_
  refine f_ic rfl (by decide) (by decide) (fun c_9 => absurd (show (5 : Int) ≤ (4 : Int) from c_9) (by decide)) (fun _ => ?_)
  refine f_aln 2 rfl hL6 rfl ?_
  refine f_iln 0 rfl hL6 rfl ?_
  refine f_iln 3 rfl hL6 rfl ?_
  refine m_ias sa11 rfl hw4 hm4 (by omega) (by omega) (by decide) (by omega) (fun hc5 hw5 hm5 => ?_)
  refine f_inc 0 [(2, fi (5)), (3, fi (5)), (0, .ref 11), (1, fi (v))] rfl (by decide) hL6 rfl rfl (fun L7 hL7 => ?_)
  refine f_goto rfl ?_
  refine f_iln 0 rfl hL7 rfl ?_
  refine f_iln 1 rfl hL7 rfl ?_
  refine f_ic rfl (by decide) (by decide) (fun _ => ?_) (fun c_9 => absurd (show (5 : Int) ≤ (5 : Int) from (by decide)) c_9)
  exact m_ret0 rfl ⟨rfl, hw5, hm5⟩)
theorem t2_12 {m : Nat → Nat → Int} {v : Int} (rv : -2147483648 ≤ v ∧ v ≤ 2147483647) : h_M 2 [.ref 12, fi (v)] m none (up (up (up (up (up m 12 0 (v)) 12 1 (v)) 12 2 (v)) 12 3 (v)) 12 4 (v)) := h_M_of (R := ev_r2) rfl (fun hc hw hm => by
  have hL : f_L (lv_args 0 [.ref 12, fi (v)]) [(0, .ref 12), (1, fi (v))] := f_L_of rfl
  generalize lv_args 0 [.ref 12, fi (v)] = L at hL
  show x_W none (0, 0, 4, 2, 0, 0, 0, 0, 0, ev_t2) 0 L [] hc 0 0 _
  have hR := gi_R hm
  refine f_s [fi (0)] rfl rfl ?_
  refine f_istn [(2, fi (0)), (0, .ref 12), (1, fi (v))] rfl (by decide) hL rfl (fun L1 hL1 => ?_)
  refine f_aln 1 rfl hL1 rfl ?_
  refine m_al sa12 rfl hw (by decide) ?_
  refine f_istn [(3, fi (5)), (2, fi (0)), (0, .ref 12), (1, fi (v))] rfl (by decide) hL1 rfl (fun L2 hL2 => ?_)
  refine f_iln 1 rfl hL2 rfl ?_
  refine f_iln 0 rfl hL2 rfl ?_
  refine f_ic rfl (by decide) (by decide) (fun c_9 => absurd (show (5 : Int) ≤ (0 : Int) from c_9) (by decide)) (fun _ => ?_)
  refine f_aln 2 rfl hL2 rfl ?_
  refine f_iln 1 rfl hL2 rfl ?_
  refine f_iln 3 rfl hL2 rfl ?_
  refine m_ias sa12 rfl hw hm (by omega) (by omega) (by decide) (by omega) (fun hc1 hw1 hm1 => ?_)
  refine f_inc 1 [(2, fi (1)), (3, fi (5)), (0, .ref 12), (1, fi (v))] rfl (by decide) hL2 rfl rfl (fun L3 hL3 => ?_)
  refine f_goto rfl ?_
  refine f_iln 0 rfl hL3 rfl ?_
  refine f_iln 1 rfl hL3 rfl ?_
  refine f_ic rfl (by decide) (by decide) (fun c_9 => absurd (show (5 : Int) ≤ (1 : Int) from c_9) (by decide)) (fun _ => ?_)
  refine f_aln 2 rfl hL3 rfl ?_
  refine f_iln 0 rfl hL3 rfl ?_
  refine f_iln 3 rfl hL3 rfl ?_
  refine m_ias sa12 rfl hw1 hm1 (by omega) (by omega) (by decide) (by omega) (fun hc2 hw2 hm2 => ?_)
  refine f_inc 0 [(2, fi (2)), (3, fi (5)), (0, .ref 12), (1, fi (v))] rfl (by decide) hL3 rfl rfl (fun L4 hL4 => ?_)
  refine f_goto rfl ?_
  refine f_iln 0 rfl hL4 rfl ?_
  refine f_iln 1 rfl hL4 rfl ?_
  refine f_ic rfl (by decide) (by decide) (fun c_9 => absurd (show (5 : Int) ≤ (2 : Int) from c_9) (by decide)) (fun _ => ?_)
  refine f_aln 2 rfl hL4 rfl ?_
  refine f_iln 0 rfl hL4 rfl ?_
  refine f_iln 3 rfl hL4 rfl ?_
  refine m_ias sa12 rfl hw2 hm2 (by omega) (by omega) (by decide) (by omega) (fun hc3 hw3 hm3 => ?_)
  refine f_inc 0 [(2, fi (3)), (3, fi (5)), (0, .ref 12), (1, fi (v))] rfl (by decide) hL4 rfl rfl (fun L5 hL5 => ?_)
  refine f_goto rfl ?_
  refine f_iln 0 rfl hL5 rfl ?_
  refine f_iln 1 rfl hL5 rfl ?_
  refine f_ic rfl (by decide) (by decide) (fun c_9 => absurd (show (5 : Int) ≤ (3 : Int) from c_9) (by decide)) (fun _ => ?_)
  refine f_aln 2 rfl hL5 rfl ?_
  refine f_iln 0 rfl hL5 rfl ?_
  refine f_iln 3 rfl hL5 rfl ?_
  refine m_ias sa12 rfl hw3 hm3 (by omega) (by omega) (by decide) (by omega) (fun hc4 hw4 hm4 => ?_)
  refine f_inc 0 [(2, fi (4)), (3, fi (5)), (0, .ref 12), (1, fi (v))] rfl (by decide) hL5 rfl rfl (fun L6 hL6 => ?_)
  refine f_goto rfl ?_
  refine f_iln 0 rfl hL6 rfl ?_
  refine f_iln 1 rfl hL6 rfl ?_
  refine f_ic rfl (by decide) (by decide) (fun c_9 => absurd (show (5 : Int) ≤ (4 : Int) from c_9) (by decide)) (fun _ => ?_)
  refine f_aln 2 rfl hL6 rfl ?_
  refine f_iln 0 rfl hL6 rfl ?_
  refine f_iln 3 rfl hL6 rfl ?_
  refine m_ias sa12 rfl hw4 hm4 (by omega) (by omega) (by decide) (by omega) (fun hc5 hw5 hm5 => ?_)
  refine f_inc 0 [(2, fi (5)), (3, fi (5)), (0, .ref 12), (1, fi (v))] rfl (by decide) hL6 rfl rfl (fun L7 hL7 => ?_)
  refine f_goto rfl ?_
  refine f_iln 0 rfl hL7 rfl ?_
  refine f_iln 1 rfl hL7 rfl ?_
  refine f_ic rfl (by decide) (by decide) (fun _ => ?_) (fun c_9 => absurd (show (5 : Int) ≤ (5 : Int) from (by decide)) c_9)
  exact m_ret0 rfl ⟨rfl, hw5, hm5⟩)
theorem t2_14 {m : Nat → Nat → Int} {v : Int} (rv : -2147483648 ≤ v ∧ v ≤ 2147483647) : h_M 2 [.ref 14, fi (v)] m none (up (up (up (up (up m 14 0 (v)) 14 1 (v)) 14 2 (v)) 14 3 (v)) 14 4 (v)) := h_M_of (R := ev_r2) rfl (fun hc hw hm => by
  have hL : f_L (lv_args 0 [.ref 14, fi (v)]) [(0, .ref 14), (1, fi (v))] := f_L_of rfl
  generalize lv_args 0 [.ref 14, fi (v)] = L at hL
  show x_W none (0, 0, 4, 2, 0, 0, 0, 0, 0, ev_t2) 0 L [] hc 0 0 _
  have hR := gi_R hm
  refine f_s [fi (0)] rfl rfl ?_
  refine f_istn [(2, fi (0)), (0, .ref 14), (1, fi (v))] rfl (by decide) hL rfl (fun L1 hL1 => ?_)
  refine f_aln 1 rfl hL1 rfl ?_
  refine m_al sa14 rfl hw (by decide) ?_
  refine f_istn [(3, fi (5)), (2, fi (0)), (0, .ref 14), (1, fi (v))] rfl (by decide) hL1 rfl (fun L2 hL2 => ?_)
  refine f_iln 1 rfl hL2 rfl ?_
  refine f_iln 0 rfl hL2 rfl ?_
  refine f_ic rfl (by decide) (by decide) (fun c_9 => absurd (show (5 : Int) ≤ (0 : Int) from c_9) (by decide)) (fun _ => ?_)
  refine f_aln 2 rfl hL2 rfl ?_
  refine f_iln 1 rfl hL2 rfl ?_
  refine f_iln 3 rfl hL2 rfl ?_
  refine m_ias sa14 rfl hw hm (by omega) (by omega) (by decide) (by omega) (fun hc1 hw1 hm1 => ?_)
  refine f_inc 1 [(2, fi (1)), (3, fi (5)), (0, .ref 14), (1, fi (v))] rfl (by decide) hL2 rfl rfl (fun L3 hL3 => ?_)
  refine f_goto rfl ?_
  refine f_iln 0 rfl hL3 rfl ?_
  refine f_iln 1 rfl hL3 rfl ?_
  refine f_ic rfl (by decide) (by decide) (fun c_9 => absurd (show (5 : Int) ≤ (1 : Int) from c_9) (by decide)) (fun _ => ?_)
  refine f_aln 2 rfl hL3 rfl ?_
  refine f_iln 0 rfl hL3 rfl ?_
  refine f_iln 3 rfl hL3 rfl ?_
  refine m_ias sa14 rfl hw1 hm1 (by omega) (by omega) (by decide) (by omega) (fun hc2 hw2 hm2 => ?_)
  refine f_inc 0 [(2, fi (2)), (3, fi (5)), (0, .ref 14), (1, fi (v))] rfl (by decide) hL3 rfl rfl (fun L4 hL4 => ?_)
  refine f_goto rfl ?_
  refine f_iln 0 rfl hL4 rfl ?_
  refine f_iln 1 rfl hL4 rfl ?_
  refine f_ic rfl (by decide) (by decide) (fun c_9 => absurd (show (5 : Int) ≤ (2 : Int) from c_9) (by decide)) (fun _ => ?_)
  refine f_aln 2 rfl hL4 rfl ?_
  refine f_iln 0 rfl hL4 rfl ?_
  refine f_iln 3 rfl hL4 rfl ?_
  refine m_ias sa14 rfl hw2 hm2 (by omega) (by omega) (by decide) (by omega) (fun hc3 hw3 hm3 => ?_)
  refine f_inc 0 [(2, fi (3)), (3, fi (5)), (0, .ref 14), (1, fi (v))] rfl (by decide) hL4 rfl rfl (fun L5 hL5 => ?_)
  refine f_goto rfl ?_
  refine f_iln 0 rfl hL5 rfl ?_
  refine f_iln 1 rfl hL5 rfl ?_
  refine f_ic rfl (by decide) (by decide) (fun c_9 => absurd (show (5 : Int) ≤ (3 : Int) from c_9) (by decide)) (fun _ => ?_)
  refine f_aln 2 rfl hL5 rfl ?_
  refine f_iln 0 rfl hL5 rfl ?_
  refine f_iln 3 rfl hL5 rfl ?_
  refine m_ias sa14 rfl hw3 hm3 (by omega) (by omega) (by decide) (by omega) (fun hc4 hw4 hm4 => ?_)
  refine f_inc 0 [(2, fi (4)), (3, fi (5)), (0, .ref 14), (1, fi (v))] rfl (by decide) hL5 rfl rfl (fun L6 hL6 => ?_)
  refine f_goto rfl ?_
  refine f_iln 0 rfl hL6 rfl ?_
  refine f_iln 1 rfl hL6 rfl ?_
  refine f_ic rfl (by decide) (by decide) (fun c_9 => absurd (show (5 : Int) ≤ (4 : Int) from c_9) (by decide)) (fun _ => ?_)
  refine f_aln 2 rfl hL6 rfl ?_
  refine f_iln 0 rfl hL6 rfl ?_
  refine f_iln 3 rfl hL6 rfl ?_
  refine m_ias sa14 rfl hw4 hm4 (by omega) (by omega) (by decide) (by omega) (fun hc5 hw5 hm5 => ?_)
  refine f_inc 0 [(2, fi (5)), (3, fi (5)), (0, .ref 14), (1, fi (v))] rfl (by decide) hL6 rfl rfl (fun L7 hL7 => ?_)
  refine f_goto rfl ?_
  refine f_iln 0 rfl hL7 rfl ?_
  refine f_iln 1 rfl hL7 rfl ?_
  refine f_ic rfl (by decide) (by decide) (fun _ => ?_) (fun c_9 => absurd (show (5 : Int) ≤ (5 : Int) from (by decide)) c_9)
  exact m_ret0 rfl ⟨rfl, hw5, hm5⟩)
theorem t2_15 {m : Nat → Nat → Int} {v : Int} (rv : -2147483648 ≤ v ∧ v ≤ 2147483647) : h_M 2 [.ref 15, fi (v)] m none (up (up (up (up (up m 15 0 (v)) 15 1 (v)) 15 2 (v)) 15 3 (v)) 15 4 (v)) := h_M_of (R := ev_r2) rfl (fun hc hw hm => by
  have hL : f_L (lv_args 0 [.ref 15, fi (v)]) [(0, .ref 15), (1, fi (v))] := f_L_of rfl
  generalize lv_args 0 [.ref 15, fi (v)] = L at hL
  show x_W none (0, 0, 4, 2, 0, 0, 0, 0, 0, ev_t2) 0 L [] hc 0 0 _
  have hR := gi_R hm
  refine f_s [fi (0)] rfl rfl ?_
  refine f_istn [(2, fi (0)), (0, .ref 15), (1, fi (v))] rfl (by decide) hL rfl (fun L1 hL1 => ?_)
  refine f_aln 1 rfl hL1 rfl ?_
  refine m_al sa15 rfl hw (by decide) ?_
  refine f_istn [(3, fi (5)), (2, fi (0)), (0, .ref 15), (1, fi (v))] rfl (by decide) hL1 rfl (fun L2 hL2 => ?_)
  refine f_iln 1 rfl hL2 rfl ?_
  refine f_iln 0 rfl hL2 rfl ?_
  refine f_ic rfl (by decide) (by decide) (fun c_9 => absurd (show (5 : Int) ≤ (0 : Int) from c_9) (by decide)) (fun _ => ?_)
  refine f_aln 2 rfl hL2 rfl ?_
  refine f_iln 1 rfl hL2 rfl ?_
  refine f_iln 3 rfl hL2 rfl ?_
  refine m_ias sa15 rfl hw hm (by omega) (by omega) (by decide) (by omega) (fun hc1 hw1 hm1 => ?_)
  refine f_inc 1 [(2, fi (1)), (3, fi (5)), (0, .ref 15), (1, fi (v))] rfl (by decide) hL2 rfl rfl (fun L3 hL3 => ?_)
  refine f_goto rfl ?_
  refine f_iln 0 rfl hL3 rfl ?_
  refine f_iln 1 rfl hL3 rfl ?_
  refine f_ic rfl (by decide) (by decide) (fun c_9 => absurd (show (5 : Int) ≤ (1 : Int) from c_9) (by decide)) (fun _ => ?_)
  refine f_aln 2 rfl hL3 rfl ?_
  refine f_iln 0 rfl hL3 rfl ?_
  refine f_iln 3 rfl hL3 rfl ?_
  refine m_ias sa15 rfl hw1 hm1 (by omega) (by omega) (by decide) (by omega) (fun hc2 hw2 hm2 => ?_)
  refine f_inc 0 [(2, fi (2)), (3, fi (5)), (0, .ref 15), (1, fi (v))] rfl (by decide) hL3 rfl rfl (fun L4 hL4 => ?_)
  refine f_goto rfl ?_
  refine f_iln 0 rfl hL4 rfl ?_
  refine f_iln 1 rfl hL4 rfl ?_
  refine f_ic rfl (by decide) (by decide) (fun c_9 => absurd (show (5 : Int) ≤ (2 : Int) from c_9) (by decide)) (fun _ => ?_)
  refine f_aln 2 rfl hL4 rfl ?_
  refine f_iln 0 rfl hL4 rfl ?_
  refine f_iln 3 rfl hL4 rfl ?_
  refine m_ias sa15 rfl hw2 hm2 (by omega) (by omega) (by decide) (by omega) (fun hc3 hw3 hm3 => ?_)
  refine f_inc 0 [(2, fi (3)), (3, fi (5)), (0, .ref 15), (1, fi (v))] rfl (by decide) hL4 rfl rfl (fun L5 hL5 => ?_)
  refine f_goto rfl ?_
  refine f_iln 0 rfl hL5 rfl ?_
  refine f_iln 1 rfl hL5 rfl ?_
  refine f_ic rfl (by decide) (by decide) (fun c_9 => absurd (show (5 : Int) ≤ (3 : Int) from c_9) (by decide)) (fun _ => ?_)
  refine f_aln 2 rfl hL5 rfl ?_
  refine f_iln 0 rfl hL5 rfl ?_
  refine f_iln 3 rfl hL5 rfl ?_
  refine m_ias sa15 rfl hw3 hm3 (by omega) (by omega) (by decide) (by omega) (fun hc4 hw4 hm4 => ?_)
  refine f_inc 0 [(2, fi (4)), (3, fi (5)), (0, .ref 15), (1, fi (v))] rfl (by decide) hL5 rfl rfl (fun L6 hL6 => ?_)
  refine f_goto rfl ?_
  refine f_iln 0 rfl hL6 rfl ?_
  refine f_iln 1 rfl hL6 rfl ?_
  refine f_ic rfl (by decide) (by decide) (fun c_9 => absurd (show (5 : Int) ≤ (4 : Int) from c_9) (by decide)) (fun _ => ?_)
  refine f_aln 2 rfl hL6 rfl ?_
  refine f_iln 0 rfl hL6 rfl ?_
  refine f_iln 3 rfl hL6 rfl ?_
  refine m_ias sa15 rfl hw4 hm4 (by omega) (by omega) (by decide) (by omega) (fun hc5 hw5 hm5 => ?_)
  refine f_inc 0 [(2, fi (5)), (3, fi (5)), (0, .ref 15), (1, fi (v))] rfl (by decide) hL6 rfl rfl (fun L7 hL7 => ?_)
  refine f_goto rfl ?_
  refine f_iln 0 rfl hL7 rfl ?_
  refine f_iln 1 rfl hL7 rfl ?_
  refine f_ic rfl (by decide) (by decide) (fun _ => ?_) (fun c_9 => absurd (show (5 : Int) ≤ (5 : Int) from (by decide)) c_9)
  exact m_ret0 rfl ⟨rfl, hw5, hm5⟩)
theorem t32_9 {m : Nat → Nat → Int} : h_M 32 [.ref 9] m none (up (up (up (up (up (up (up (up (up (up m 10 0 (-9)) 10 1 (-9)) 10 2 (-9)) 10 3 (-9)) 10 4 (-9)) 11 0 (0)) 11 1 (0)) 11 2 (0)) 11 3 (0)) 11 4 (0)) := h_M_of (R := ev_r32) rfl (fun hc hw hm => by
  have hL : f_L (lv_args 0 [.ref 9]) [(0, .ref 9)] := f_L_of rfl
  generalize lv_args 0 [.ref 9] = L at hL
  show x_W none (0, 0, 1, 0, 7, 1, 23, 0, 0, ev_t32) 0 L [] hc 0 0 _
  have hR := gi_R hm
  refine f_aln 0 rfl hL rfl ?_
  refine m_gfr so9 rfl hw rfl (by decide) ?_
  refine f_bipush (n := -9) rfl (by decide) ?_
  refine m_k0 (t2_10 (v := -9) (by decide)) hw hm rfl rfl rfl rfl rfl (fun hc1 hw1 hm1 => ?_)
  refine f_aln 0 rfl hL rfl ?_
  refine m_gfr so9 rfl hw1 rfl (by decide) ?_
  refine f_s [fi (0), .ref 11] rfl rfl ?_
  refine m_k0 (t2_11 (v := 0) (by decide)) hw1 hm1 rfl rfl rfl rfl rfl (fun hc2 hw2 hm2 => ?_)
  exact m_ret0 rfl ⟨rfl, hw2, hm2⟩)
theorem t32_13 {m : Nat → Nat → Int} : h_M 32 [.ref 13] m none (up (up (up (up (up (up (up (up (up (up m 14 0 (-9)) 14 1 (-9)) 14 2 (-9)) 14 3 (-9)) 14 4 (-9)) 15 0 (0)) 15 1 (0)) 15 2 (0)) 15 3 (0)) 15 4 (0)) := h_M_of (R := ev_r32) rfl (fun hc hw hm => by
  have hL : f_L (lv_args 0 [.ref 13]) [(0, .ref 13)] := f_L_of rfl
  generalize lv_args 0 [.ref 13] = L at hL
  show x_W none (0, 0, 1, 0, 7, 1, 23, 0, 0, ev_t32) 0 L [] hc 0 0 _
  have hR := gi_R hm
  refine f_aln 0 rfl hL rfl ?_
  refine m_gfr so13 rfl hw rfl (by decide) ?_
  refine f_bipush (n := -9) rfl (by decide) ?_
  refine m_k0 (t2_14 (v := -9) (by decide)) hw hm rfl rfl rfl rfl rfl (fun hc1 hw1 hm1 => ?_)
  refine f_aln 0 rfl hL rfl ?_
  refine m_gfr so13 rfl hw1 rfl (by decide) ?_
  refine f_s [fi (0), .ref 15] rfl rfl ?_
  refine m_k0 (t2_15 (v := 0) (by decide)) hw1 hm1 rfl rfl rfl rfl rfl (fun hc2 hw2 hm2 => ?_)
  exact m_ret0 rfl ⟨rfl, hw2, hm2⟩)
theorem t33 {m : Nat → Nat → Int} : h_M 33 [.ref 9] m none (up (up (up (up (up (up (up (up (up (up (up (up (up (up (up (up (up (up m 10 0 (-9)) 10 1 (-9)) 10 2 (-9)) 10 3 (-9)) 10 4 (-9)) 11 0 (0)) 11 1 (0)) 11 2 (0)) 11 3 (0)) 11 4 (0)) 12 0 (0)) 12 1 (0)) 12 2 (0)) 12 3 (0)) 12 4 (0)) 9 4 (0)) 9 5 (0)) 9 6 (0)) := h_M_of (R := ev_r33) rfl (fun hc hw hm => by
  have hL : f_L (lv_args 0 [.ref 9]) [(0, .ref 9)] := f_L_of rfl
  generalize lv_args 0 [.ref 9] = L at hL
  show x_W none (0, 0, 1, 0, 7, 2, 43, 0, 0, ev_t33) 0 L [] hc 0 0 _
  have hR := gi_R hm
  refine f_aln 0 rfl hL rfl ?_
  refine m_k0 t32_9 hw hm rfl rfl rfl (m_ar so9 hw rfl) rfl (fun hc1 hw1 hm1 => ?_)
  refine f_aln 0 rfl hL rfl ?_
  refine m_gfr so9 rfl hw1 rfl (by decide) ?_
  refine f_s [fi (0), .ref 12] rfl rfl ?_
  refine m_k0 (t2_12 (v := 0) (by decide)) hw1 hm1 rfl rfl rfl rfl rfl (fun hc2 hw2 hm2 => ?_)
  refine f_aln 0 rfl hL rfl ?_
  refine f_s [fi (0), .ref 9] rfl rfl ?_
  refine m_pf so9 rfl hw2 hm2 rfl rfl (by decide) (fun hc3 hw3 hm3 => ?_)
  refine f_aln 0 rfl hL rfl ?_
  refine f_s [fi (0), .ref 9] rfl rfl ?_
  refine m_pf so9 rfl hw3 hm3 rfl rfl (by decide) (fun hc4 hw4 hm4 => ?_)
  refine f_aln 0 rfl hL rfl ?_
  refine f_s [fi (0), .ref 9] rfl rfl ?_
  refine m_pf so9 rfl hw4 hm4 rfl rfl (by decide) (fun hc5 hw5 hm5 => ?_)
  exact m_ret0 rfl ⟨rfl, hw5, hm5⟩)
theorem t34 {m : Nat → Nat → Int} : h_M 34 [.ref 17] m none (up (up m 17 1 (0)) 17 2 (0)) := h_M_of (R := ev_r34) rfl (fun hc hw hm => by
  have hL : f_L (lv_args 0 [.ref 17]) [(0, .ref 17)] := f_L_of rfl
  generalize lv_args 0 [.ref 17] = L at hL
  show x_W none (0, 0, 1, 0, 1, 0, 0, 0, 0, ev_t34) 0 L [] hc 0 0 _
  have hR := gi_R hm
  refine f_aln 0 rfl hL rfl ?_
  refine f_s [fi (0), .ref 17] rfl rfl ?_
  refine m_pf so17 rfl hw hm rfl rfl (by decide) (fun hc1 hw1 hm1 => ?_)
  refine f_aln 0 rfl hL rfl ?_
  refine f_s [fi (0), .ref 17] rfl rfl ?_
  refine m_pf so17 rfl hw1 hm1 rfl rfl (by decide) (fun hc2 hw2 hm2 => ?_)
  exact m_ret0 rfl ⟨rfl, hw2, hm2⟩)
theorem t35 {m : Nat → Nat → Int} : h_M 35 [.ref 33] m none (up (up m 37 0 (0)) 37 1 (0)) := h_M_of (R := ev_r35) rfl (fun hc hw hm => by
  have hL : f_L (lv_args 0 [.ref 33]) [(0, .ref 33)] := f_L_of rfl
  generalize lv_args 0 [.ref 33] = L at hL
  show x_W none (0, 0, 2, 0, 8, 0, 0, 0, 0, ev_t35) 0 L [] hc 0 0 _
  have hR := gi_R hm
  refine f_s [fi (0)] rfl rfl ?_
  refine f_istn [(1, fi (0)), (0, .ref 33)] rfl (by decide) hL rfl (fun L1 hL1 => ?_)
  refine f_iln 0 rfl hL1 rfl ?_
  refine f_s [fi (2), fi (0)] rfl rfl ?_
  refine f_ic rfl (by decide) (by decide) (fun c_9 => absurd (show (2 : Int) ≤ (0 : Int) from c_9) (by decide)) (fun _ => ?_)
  refine f_aln 1 rfl hL1 rfl ?_
  refine m_gfr so33 rfl hw rfl (by decide) ?_
  refine f_iln 0 rfl hL1 rfl ?_
  refine f_s [fi (0), fi (0), .ref 37] rfl rfl ?_
  refine m_bas sa37 rfl hw hm (by decide) (by decide) (by decide) (by decide) (fun hc1 hw1 hm1 => ?_)
  refine f_inc 0 [(1, fi (1)), (0, .ref 33)] rfl (by decide) hL1 rfl rfl (fun L2 hL2 => ?_)
  refine f_goto rfl ?_
  refine f_iln 0 rfl hL2 rfl ?_
  refine f_s [fi (2), fi (1)] rfl rfl ?_
  refine f_ic rfl (by decide) (by decide) (fun c_9 => absurd (show (2 : Int) ≤ (1 : Int) from c_9) (by decide)) (fun _ => ?_)
  refine f_aln 1 rfl hL2 rfl ?_
  refine m_gfr so33 rfl hw1 rfl (by decide) ?_
  refine f_iln 0 rfl hL2 rfl ?_
  refine f_s [fi (0), fi (1), .ref 37] rfl rfl ?_
  refine m_bas sa37 rfl hw1 hm1 (by decide) (by decide) (by decide) (by decide) (fun hc2 hw2 hm2 => ?_)
  refine f_inc 0 [(1, fi (2)), (0, .ref 33)] rfl (by decide) hL2 rfl rfl (fun L3 hL3 => ?_)
  refine f_goto rfl ?_
  refine f_iln 0 rfl hL3 rfl ?_
  refine f_s [fi (2), fi (2)] rfl rfl ?_
  refine f_ic rfl (by decide) (by decide) (fun _ => ?_) (fun c_9 => absurd (show (2 : Int) ≤ (2 : Int) from (by decide)) c_9)
  exact m_ret0 rfl ⟨rfl, hw2, hm2⟩)
theorem t36 {m : Nat → Nat → Int} : h_M 36 [.ref 3] m (some (fi (m 3 5))) m := h_M_of (R := ev_r36) rfl (fun hc hw hm => by
  have hL : f_L (lv_args 0 [.ref 3]) [(0, .ref 3)] := f_L_of rfl
  generalize lv_args 0 [.ref 3] = L at hL
  show x_W none (1, 0, 1, 0, 5, 0, 0, 0, 0, ev_t36) 0 L [] hc 0 0 _
  have hR := gi_R hm
  refine f_aln 0 rfl hL rfl ?_
  refine m_gfi so3 (m 3 5) rfl hw hm rfl rfl ?_
  exact f_ret1 rfl ⟨rfl, hw, hm⟩)
theorem t37 {m : Nat → Nat → Int} : h_M 37 [.ref 3] m (some (fi (m 3 6))) m := h_M_of (R := ev_r37) rfl (fun hc hw hm => by
  have hL : f_L (lv_args 0 [.ref 3]) [(0, .ref 3)] := f_L_of rfl
  generalize lv_args 0 [.ref 3] = L at hL
  show x_W none (1, 0, 1, 0, 5, 0, 0, 0, 0, ev_t37) 0 L [] hc 0 0 _
  have hR := gi_R hm
  refine f_aln 0 rfl hL rfl ?_
  refine m_gfi so3 (m 3 6) rfl hw hm rfl rfl ?_
  exact f_ret1 rfl ⟨rfl, hw, hm⟩)
theorem t29 {m : Nat → Nat → Int} (n1 : 0 ≤ m 3 5) (n2 : m 3 5 < 4) {a b : Int} (ra : -2147483648 ≤ a ∧ a ≤ 2147483647) (rb : -2147483648 ≤ b ∧ b ≤ 2147483647) : h_M 29 [.ref 3, fi (a), fi (b)] m none (up (up (up m 4 (m 3 5).toNat (a)) 5 (m 3 5).toNat (b)) 3 5 ((m 3 5) + 1)) := h_M_of (R := ev_r29) rfl (fun hc hw hm => by
  have hL : f_L (lv_args 0 [.ref 3, fi (a), fi (b)]) [(0, .ref 3), (1, fi (a)), (2, fi (b))] := f_L_of rfl
  generalize lv_args 0 [.ref 3, fi (a), fi (b)] = L at hL
  show x_W none (0, 0, 3, 2, 5, 0, 0, 0, 0, ev_t29) 0 L [] hc 0 0 _
  have hR := gi_R hm
  refine f_aln 0 rfl hL rfl ?_
  refine m_gfi so3 (m 3 5) rfl hw hm rfl rfl ?_
  refine f_if rfl (by omega) (fun c_9 => absurd (show (m 3 5 : Int) < (0 : Int) from c_9) (by omega)) (fun _ => ?_)
  refine f_aln 0 rfl hL rfl ?_
  refine m_gfi so3 (m 3 5) rfl hw hm rfl rfl ?_
  refine f_s [fi (4), fi (m 3 5)] rfl rfl ?_
  refine f_ic rfl (by omega) (by omega) (fun _ => ?_) (fun c_9 => absurd (show (m 3 5 : Int) < (4 : Int) from (by omega)) c_9)
  refine f_aln 0 rfl hL rfl ?_
  refine m_gfr so3 rfl hw rfl (by decide) ?_
  refine f_aln 0 rfl hL rfl ?_
  refine m_gfi so3 (m 3 5) rfl hw hm rfl rfl ?_
  refine f_iln 1 rfl hL rfl ?_
  refine m_ias sa4 rfl hw hm (by omega) (by omega) (by decide) (by omega) (fun hc1 hw1 hm1 => ?_)
  refine f_aln 0 rfl hL rfl ?_
  refine m_gfr so3 rfl hw1 rfl (by decide) ?_
  refine f_aln 0 rfl hL rfl ?_
  refine m_gfi so3 (m 3 5) rfl hw1 hm1 rfl rfl ?_
  refine f_iln 2 rfl hL rfl ?_
  refine m_ias sa5 rfl hw1 hm1 (by omega) (by omega) (by decide) (by omega) (fun hc2 hw2 hm2 => ?_)
  refine f_aln 0 rfl hL rfl ?_
  refine f_s [.ref 3, .ref 3] rfl rfl ?_
  refine m_gfi so3 (m 3 5) rfl hw2 hm2 rfl rfl ?_
  refine f_s [fi (1), fi (m 3 5), .ref 3] rfl rfl ?_
  refine f_iadd rfl ?_
  refine m_pf so3 rfl hw2 hm2 rfl rfl (by omega) (fun hc3 hw3 hm3 => ?_)
  exact m_ret0 rfl ⟨rfl, hw3, hm3⟩)
theorem t30 {m : Nat → Nat → Int} (n1 : 0 ≤ m 3 6) (n2 : m 3 6 < 5) {a b c : Int} (ra : -2147483648 ≤ a ∧ a ≤ 2147483647) (rb : -2147483648 ≤ b ∧ b ≤ 2147483647) (rc : -2147483648 ≤ c ∧ c ≤ 2147483647) : h_M 30 [.ref 3, fi (a), fi (b), fi (c)] m none (up (up (up (up m 6 (m 3 6).toNat (a)) 7 (m 3 6).toNat (b)) 8 (m 3 6).toNat (c)) 3 6 ((m 3 6) + 1)) := h_M_of (R := ev_r30) rfl (fun hc hw hm => by
  have hL : f_L (lv_args 0 [.ref 3, fi (a), fi (b), fi (c)]) [(0, .ref 3), (1, fi (a)), (2, fi (b)), (3, fi (c))] := f_L_of rfl
  generalize lv_args 0 [.ref 3, fi (a), fi (b), fi (c)] = L at hL
  show x_W none (0, 0, 4, 3, 5, 0, 0, 0, 0, ev_t30) 0 L [] hc 0 0 _
  have hR := gi_R hm
  refine f_aln 0 rfl hL rfl ?_
  refine m_gfi so3 (m 3 6) rfl hw hm rfl rfl ?_
  refine f_if rfl (by omega) (fun c_9 => absurd (show (m 3 6 : Int) < (0 : Int) from c_9) (by omega)) (fun _ => ?_)
  refine f_aln 0 rfl hL rfl ?_
  refine m_gfi so3 (m 3 6) rfl hw hm rfl rfl ?_
  refine f_s [fi (5), fi (m 3 6)] rfl rfl ?_
  refine f_ic rfl (by omega) (by omega) (fun _ => ?_) (fun c_9 => absurd (show (m 3 6 : Int) < (5 : Int) from (by omega)) c_9)
  refine f_aln 0 rfl hL rfl ?_
  refine m_gfr so3 rfl hw rfl (by decide) ?_
  refine f_aln 0 rfl hL rfl ?_
  refine m_gfi so3 (m 3 6) rfl hw hm rfl rfl ?_
  refine f_iln 1 rfl hL rfl ?_
  refine m_ias sa6 rfl hw hm (by omega) (by omega) (by decide) (by omega) (fun hc1 hw1 hm1 => ?_)
  refine f_aln 0 rfl hL rfl ?_
  refine m_gfr so3 rfl hw1 rfl (by decide) ?_
  refine f_aln 0 rfl hL rfl ?_
  refine m_gfi so3 (m 3 6) rfl hw1 hm1 rfl rfl ?_
  refine f_iln 2 rfl hL rfl ?_
  refine m_ias sa7 rfl hw1 hm1 (by omega) (by omega) (by decide) (by omega) (fun hc2 hw2 hm2 => ?_)
  refine f_aln 0 rfl hL rfl ?_
  refine m_gfr so3 rfl hw2 rfl (by decide) ?_
  refine f_aln 0 rfl hL rfl ?_
  refine m_gfi so3 (m 3 6) rfl hw2 hm2 rfl rfl ?_
  refine f_iln 3 rfl hL rfl ?_
  refine m_ias sa8 rfl hw2 hm2 (by omega) (by omega) (by decide) (by omega) (fun hc3 hw3 hm3 => ?_)
  refine f_aln 0 rfl hL rfl ?_
  refine f_s [.ref 3, .ref 3] rfl rfl ?_
  refine m_gfi so3 (m 3 6) rfl hw3 hm3 rfl rfl ?_
  refine f_s [fi (1), fi (m 3 6), .ref 3] rfl rfl ?_
  refine f_iadd rfl ?_
  refine m_pf so3 rfl hw3 hm3 rfl rfl (by omega) (fun hc4 hw4 hm4 => ?_)
  exact m_ret0 rfl ⟨rfl, hw4, hm4⟩)
set_option maxHeartbeats 2000000 in
theorem t31_loop {ln : Int} {t : Int → Int} : ∀ (n : Nat) (p : Int) (ns : pNs) (ps : pPs) (m : Nat → Nat → Int) (hc : ev_H) (L : ev_L), y_in yGw hc → gi hc = m → tw m → m 1 1 = ln → (∀ i, tx m i = t i) → cP m ns ps → 1 ≤ p → p ≤ 44 → (ln - p).toNat ≤ n → ns.length ≤ 4 → ps.length ≤ 5 → (pr ln t n p ns ps).1 = -9 → f_L L [(2, fi (p)), (0, .ref 3), (1, .ref 1)] → x_W none (0, 0, 3, 1, 5, 1, 23, 0, 0, ev_t31) 12 L [] hc 0 0 (fun r h' => r = none ∧ y_in yGw h' ∧ cP (gi h') (pr ln t n p ns ps).2.1 (pr ln t n p ns ps).2.2) := by
  intro n
  induction n with
  | zero =>
    intro p ns ps m hc L hw hm hT e11 et hO p1 p2 hn l1 l2 hF hL
    have hl := hT.1
    refine f_iln 0 rfl hL rfl ?_
    refine f_aln 2 rfl hL rfl ?_
    refine m_k1 t13 hw hm rfl rfl rfl (m_ar so1 hw rfl) rfl (fun hc1 hw1 hm1 => ?_)
    refine f_ic rfl (by omega) (by omega) (fun _ => ?_) (fun c_9 => absurd (show (m 1 1 : Int) ≤ (p : Int) from (by omega)) c_9)
    exact m_ret0 rfl ⟨rfl, hw1, by rw [hm1]; exact hO⟩
  | succ n ih =>
    intro p ns ps m hc L hw hm hT e11 et hO p1 p2 hn l1 l2 hF hL
    have hl := hT.1
    have hO' := hO
    obtain ⟨hO5, hO6, -, -⟩ := hO'
    refine f_iln 0 rfl hL rfl ?_
    refine f_aln 2 rfl hL rfl ?_
    refine m_k1 t13 hw hm rfl rfl rfl (m_ar so1 hw rfl) rfl (fun hc1 hw1 hm1 => ?_)
    refine f_ic rfl (by omega) (by omega) (fun c0 => ?_) (fun c0 => ?_)
    · have c0 : m 1 1 ≤ p := c0
      rw [pr_s, if_pos (by omega)]
      exact m_ret0 rfl ⟨rfl, hw1, by rw [hm1]; exact hO⟩
    · have c0 : ¬ m 1 1 ≤ p := c0
      by_cases hN : t p = 78
      · have hN' : tx m p = 78 := by rw [et]; exact hN
        by_cases h4 : 4 ≤ ns.length
        · rw [pr_s, if_neg (by omega), if_pos hN, if_pos h4] at hF
          have hF : p = -9 := hF
          omega
        · by_cases hnf : nF ln t p = -9
          · have e : pr ln t (n + 1) p ns ps = pr ln t n (p + 3) (ns ++ [(t (p + 1) - 48, t (p + 2) - 48)]) ps := by rw [pr_s, if_neg (by omega), if_pos hN, if_neg h4, if_pos hnf]
            have r1 := tx_r hT (p + 1)
            have r2 := tx_r hT (p + 2)
            have r3 := tx_r hT (p + 3)
            refine f_aln 2 rfl hL rfl ?_
            refine f_iln 0 rfl hL rfl ?_
            refine m_k1 (t20 hT (by omega)) hw1 hm1 rfl rfl rfl (m_ar so1 hw1 rfl) rfl (fun hc2 hw2 hm2 => ?_)
            refine f_bipush (n := 78) rfl (by decide) ?_
            refine f_ic rfl (by have := tx_r hT p; omega) (by decide) (fun c_9 => absurd (show ¬ (tx m p : Int) = (78 : Int) from c_9) (fun z => z hN')) (fun _ => ?_)
            refine f_aln 1 rfl hL rfl ?_
            refine f_aln 2 rfl hL rfl ?_
            refine f_iln 0 rfl hL rfl ?_
            refine f_s [fi (1), fi (p), .ref 1, .ref 3] rfl rfl ?_
            refine f_iadd rfl ?_
            refine m_k1 (t20 hT (by omega)) hw2 hm2 rfl rfl rfl (m_ar so1 hw2 rfl) rfl (fun hc3 hw3 hm3 => ?_)
            refine f_bipush (n := 48) rfl (by decide) ?_
            refine f_isub rfl ?_
            refine f_aln 2 rfl hL rfl ?_
            refine f_iln 0 rfl hL rfl ?_
            refine f_s [fi (2), fi (p), .ref 1, fi ((tx m (p + 1)) - 48), .ref 3] rfl rfl ?_
            refine f_iadd rfl ?_
            refine m_k1 (t20 hT (by omega)) hw3 hm3 rfl rfl rfl (m_ar so1 hw3 rfl) rfl (fun hc4 hw4 hm4 => ?_)
            refine f_bipush (n := 48) rfl (by decide) ?_
            refine f_isub rfl ?_
            refine m_k0 (t29 (m := m) (by omega) (by omega) (by omega) (by omega)) hw4 hm4 rfl rfl rfl (m_ar so3 hw4 rfl) rfl (fun hc5 hw5 hm5 => ?_)
            refine f_goto rfl ?_
            refine f_iln 0 rfl hL rfl ?_
            refine f_aln 2 rfl hL rfl ?_
            refine f_iln 0 rfl hL rfl ?_
            have hT2 : tw (up (up (up m 4 (m 3 5).toNat (tx m (p + 1) - 48)) 5 (m 3 5).toNat (tx m (p + 2) - 48)) 3 5 ((m 3 5) + 1)) := ⟨hT.1, hT.2⟩
            refine m_k1 (t20 hT2 (by omega)) hw5 hm5 rfl rfl rfl (m_ar so1 hw5 rfl) rfl (fun hc6 hw6 hm6 => ?_)
            refine f_bipush (n := 78) rfl (by decide) ?_
            refine f_ic rfl (by have := tx_r hT2 p; omega) (by decide) (fun c_9 => absurd (show ¬ (tx m p : Int) = (78 : Int) from c_9) (fun z => z hN')) (fun _ => ?_)
            refine f_s [fi (3), fi (p)] rfl rfl ?_
            refine f_goto rfl ?_
            refine f_iadd rfl ?_
            refine f_istn [(2, fi (p + 3)), (0, .ref 3), (1, .ref 1)] rfl (by decide) hL rfl (fun L1 hL1 => ?_)
            refine f_goto rfl ?_
            have e0 : (m 3 5).toNat = ns.length := by omega
            have hO2 : cP (up (up (up m 4 (m 3 5).toNat (tx m (p + 1) - 48)) 5 (m 3 5).toNat (tx m (p + 2) - 48)) 3 5 ((m 3 5) + 1)) (ns ++ [(t (p + 1) - 48, t (p + 2) - 48)]) (ps) := by
              rw [← et (p + 1), ← et (p + 2)]
              exact cP_n hO (by show m 3 5 + 1 = _; omega) rfl (fun i => ⟨rfl, rfl, rfl⟩) (fun i => ⟨by rw [← e0]; show (if 4 = 4 ∧ i = (m 3 5).toNat then _ else m 4 i) = _; by_cases z : i = (m 3 5).toNat <;> simp [z], by rw [← e0]; show (if 5 = 5 ∧ i = (m 3 5).toNat then _ else m 5 i) = _; by_cases z : i = (m 3 5).toNat <;> simp [z]⟩)
            rw [e] at hF ⊢
            exact ih (p + 3) (ns ++ [(t (p + 1) - 48, t (p + 2) - 48)]) (ps) (up (up (up m 4 (m 3 5).toNat (tx m (p + 1) - 48)) 5 (m 3 5).toNat (tx m (p + 2) - 48)) 3 5 ((m 3 5) + 1)) hc6 _ hw6 hm6 hT2 e11 (fun i => et i) hO2 (by omega) (by omega) (by omega) (by rw [List.length_append]; show ns.length + 1 ≤ 4; omega) (by omega) hF (hL1.sel [0, 1, 2] rfl)
          · rw [pr_s, if_neg (by omega), if_pos hN, if_neg h4, if_neg hnf] at hF
            exact absurd hF hnf
      · have hN' : ¬ tx m p = 78 := by rw [et]; exact hN
        by_cases hP : t p = 80
        · by_cases h5 : 5 ≤ ps.length
          · rw [pr_s, if_neg (by omega), if_neg hN, if_pos hP, if_pos h5] at hF
            have hF : p = -9 := hF
            omega
          · by_cases hpf : pF ln t p = -9
            · have e : pr ln t (n + 1) p ns ps = pr ln t n (p + 4) ns (ps ++ [(t (p + 1) - 48, t (p + 2) - 48, t (p + 3) - 97)]) := by rw [pr_s, if_neg (by omega), if_neg hN, if_pos hP, if_neg h5, if_pos hpf]
              have r1 := tx_r hT (p + 1)
              have r2 := tx_r hT (p + 2)
              have r3 := tx_r hT (p + 3)
              refine f_aln 2 rfl hL rfl ?_
              refine f_iln 0 rfl hL rfl ?_
              refine m_k1 (t20 hT (by omega)) hw1 hm1 rfl rfl rfl (m_ar so1 hw1 rfl) rfl (fun hc2 hw2 hm2 => ?_)
              refine f_bipush (n := 78) rfl (by decide) ?_
              refine f_ic rfl (by have := tx_r hT p; omega) (by decide) (fun _ => ?_) (fun c_9 => absurd (show ¬ (tx m p : Int) = (78 : Int) from (fun z => hN' z)) c_9)
              refine f_aln 1 rfl hL rfl ?_
              refine f_aln 2 rfl hL rfl ?_
              refine f_iln 0 rfl hL rfl ?_
              refine f_s [fi (1), fi (p), .ref 1, .ref 3] rfl rfl ?_
              refine f_iadd rfl ?_
              refine m_k1 (t20 hT (by omega)) hw2 hm2 rfl rfl rfl (m_ar so1 hw2 rfl) rfl (fun hc3 hw3 hm3 => ?_)
              refine f_bipush (n := 48) rfl (by decide) ?_
              refine f_isub rfl ?_
              refine f_aln 2 rfl hL rfl ?_
              refine f_iln 0 rfl hL rfl ?_
              refine f_s [fi (2), fi (p), .ref 1, fi ((tx m (p + 1)) - 48), .ref 3] rfl rfl ?_
              refine f_iadd rfl ?_
              refine m_k1 (t20 hT (by omega)) hw3 hm3 rfl rfl rfl (m_ar so1 hw3 rfl) rfl (fun hc4 hw4 hm4 => ?_)
              refine f_bipush (n := 48) rfl (by decide) ?_
              refine f_isub rfl ?_
              refine f_aln 2 rfl hL rfl ?_
              refine f_iln 0 rfl hL rfl ?_
              refine f_s [fi (3), fi (p), .ref 1, fi ((tx m (p + 2)) - 48), fi ((tx m (p + 1)) - 48), .ref 3] rfl rfl ?_
              refine f_iadd rfl ?_
              refine m_k1 (t20 hT (by omega)) hw4 hm4 rfl rfl rfl (m_ar so1 hw4 rfl) rfl (fun hc5 hw5 hm5 => ?_)
              refine f_bipush (n := 97) rfl (by decide) ?_
              refine f_isub rfl ?_
              refine m_k0 (t30 (m := m) (by omega) (by omega) (by omega) (by omega) (by omega)) hw5 hm5 rfl rfl rfl (m_ar so3 hw5 rfl) rfl (fun hc6 hw6 hm6 => ?_)
              refine f_iln 0 rfl hL rfl ?_
              refine f_aln 2 rfl hL rfl ?_
              refine f_iln 0 rfl hL rfl ?_
              have hT2 : tw (up (up (up (up m 6 (m 3 6).toNat (tx m (p + 1) - 48)) 7 (m 3 6).toNat (tx m (p + 2) - 48)) 8 (m 3 6).toNat (tx m (p + 3) - 97)) 3 6 ((m 3 6) + 1)) := ⟨hT.1, hT.2⟩
              refine m_k1 (t20 hT2 (by omega)) hw6 hm6 rfl rfl rfl (m_ar so1 hw6 rfl) rfl (fun hc7 hw7 hm7 => ?_)
              refine f_bipush (n := 78) rfl (by decide) ?_
              refine f_ic rfl (by have := tx_r hT2 p; omega) (by decide) (fun _ => ?_) (fun c_9 => absurd (show ¬ (tx m p : Int) = (78 : Int) from (fun z => hN' z)) c_9)
              refine f_s [fi (4), fi (p)] rfl rfl ?_
              refine f_iadd rfl ?_
              refine f_istn [(2, fi (p + 4)), (0, .ref 3), (1, .ref 1)] rfl (by decide) hL rfl (fun L1 hL1 => ?_)
              refine f_goto rfl ?_
              have e0 : (m 3 6).toNat = ps.length := by omega
              have hO2 : cP (up (up (up (up m 6 (m 3 6).toNat (tx m (p + 1) - 48)) 7 (m 3 6).toNat (tx m (p + 2) - 48)) 8 (m 3 6).toNat (tx m (p + 3) - 97)) 3 6 ((m 3 6) + 1)) (ns) (ps ++ [(t (p + 1) - 48, t (p + 2) - 48, t (p + 3) - 97)]) := by
                rw [← et (p + 1), ← et (p + 2), ← et (p + 3)]
                exact cP_p hO rfl (by show m 3 6 + 1 = _; omega) (fun i => ⟨rfl, rfl⟩) (fun i => ⟨by rw [← e0]; show (if 6 = 6 ∧ i = (m 3 6).toNat then _ else m 6 i) = _; by_cases z : i = (m 3 6).toNat <;> simp [z], by rw [← e0]; show (if 7 = 7 ∧ i = (m 3 6).toNat then _ else m 7 i) = _; by_cases z : i = (m 3 6).toNat <;> simp [z], by rw [← e0]; show (if 8 = 8 ∧ i = (m 3 6).toNat then _ else m 8 i) = _; by_cases z : i = (m 3 6).toNat <;> simp [z]⟩)
              rw [e] at hF ⊢
              exact ih (p + 4) (ns) (ps ++ [(t (p + 1) - 48, t (p + 2) - 48, t (p + 3) - 97)]) (up (up (up (up m 6 (m 3 6).toNat (tx m (p + 1) - 48)) 7 (m 3 6).toNat (tx m (p + 2) - 48)) 8 (m 3 6).toNat (tx m (p + 3) - 97)) 3 6 ((m 3 6) + 1)) hc7 _ hw7 hm7 hT2 e11 (fun i => et i) hO2 (by omega) (by omega) (by omega) (by omega) (by rw [List.length_append]; show ps.length + 1 ≤ 5; omega) hF (hL1.sel [0, 1, 2] rfl)
            · rw [pr_s, if_neg (by omega), if_neg hN, if_pos hP, if_neg h5, if_neg hpf] at hF
              exact absurd hF hpf
        · rw [pr_s, if_neg (by omega), if_neg hN, if_neg hP] at hF
          have hF : p = -9 := hF
          omega
theorem t31 {m : Nat → Nat → Int} (hT : tw m) (hF : (pr (m 1 1) (tx m) 40 1 [] []).1 = -9) : ∀ hc, y_in yGw hc → gi hc = m → ∃ hc', f_M 31 [.ref 3, .ref 1] hc none hc' ∧ y_in yGw hc' ∧ cP (gi hc') (pr (m 1 1) (tx m) 40 1 [] []).2.1 (pr (m 1 1) (tx m) 40 1 [] []).2.2 := fun hc hw hm => by
  have hl := hT.1
  have key : x_W none (0, 0, 3, 1, 5, 1, 23, 0, 0, ev_t31) 0 (lv_args 0 [.ref 3, .ref 1]) [] hc 0 0 (fun r h' => r = none ∧ y_in yGw h' ∧ cP (gi h') (pr (m 1 1) (tx m) 40 1 [] []).2.1 (pr (m 1 1) (tx m) 40 1 [] []).2.2) := by
    have hL : f_L (lv_args 0 [.ref 3, .ref 1]) [(0, .ref 3), (1, .ref 1)] := f_L_of rfl
    generalize lv_args 0 [.ref 3, .ref 1] = L at hL
    refine f_aln 0 rfl hL rfl ?_
    refine f_s [fi (0), .ref 3] rfl rfl ?_
    refine m_pf so3 rfl hw hm rfl rfl (by decide) (fun hc1 hw1 hm1 => ?_)
    refine f_aln 0 rfl hL rfl ?_
    refine f_s [fi (0), .ref 3] rfl rfl ?_
    refine m_pf so3 rfl hw1 hm1 rfl rfl (by decide) (fun hc2 hw2 hm2 => ?_)
    refine f_s [fi (1)] rfl rfl ?_
    refine f_istn [(2, fi (1)), (0, .ref 3), (1, .ref 1)] rfl (by decide) hL rfl (fun L1 hL1 => ?_)
    exact t31_loop (ln := m 1 1) (t := tx m) 40 1 [] [] (up (up m 3 5 (0)) 3 6 (0)) hc2 _ hw2 hm2 ⟨hT.1, hT.2⟩ rfl (fun _ => rfl) ⟨rfl, rfl, fun k e h => (by cases h), fun k e h => by cases h⟩ (by decide) (by decide) (by omega) (by decide) (by decide) hF (hL1.sel [0, 1, 2] rfl)
  obtain ⟨n, r, h', e, rfl, e2, e3⟩ := key
  exact ⟨h', fun R hR => by cases hR; exact ⟨n, e⟩, e2, e3⟩
def hallC (m : Nat → Nat → Int) : Nat → Nat → Int := (up (up (up (up (up (up (up (up (up (up (up (up (up (up (up (up (up (up (up (up (up (up m 10 0 (-9)) 10 1 (-9)) 10 2 (-9)) 10 3 (-9)) 10 4 (-9)) 11 0 (0)) 11 1 (0)) 11 2 (0)) 11 3 (0)) 11 4 (0)) 12 0 (0)) 12 1 (0)) 12 2 (0)) 12 3 (0)) 12 4 (0)) 9 4 (0)) 9 5 (0)) 9 6 (0)) 17 1 (0)) 17 2 (0)) 37 0 (0)) 37 1 (0))
theorem t38_bad {m : Nat → Nat → Int} (hT : tw m) (rF : -2147483648 ≤ tF m ∧ tF m ≤ 2147483647) (hF : ¬ tF m = -9) : h_M 38 [.ref 0] m (some (fi (-3))) m := h_M_of (R := ev_r38) rfl (fun hc hw hm => by
  have hL : f_L (lv_args 0 [.ref 0]) [(0, .ref 0)] := f_L_of rfl
  generalize lv_args 0 [.ref 0] = L at hL
  show x_W none (1, 0, 1, 0, 10, 4, 91, 0, 0, ev_t38) 0 L [] hc 0 0 _
  refine f_aln 0 rfl hL rfl ?_
  refine m_gfr so0 rfl hw rfl (by decide) ?_
  refine m_k1 (t24 hT) hw hm rfl rfl rfl (m_ar so1 hw rfl) rfl (fun hc1 hw1 hm1 => ?_)
  refine f_bipush (n := -9) rfl (by decide) ?_
  refine f_ic rfl rF (by decide) (fun c_9 => absurd (show (tF m : Int) = (-9 : Int) from c_9) hF) (fun _ => ?_)
  refine f_bipush (n := -3) rfl (by decide) ?_
  exact f_ret1 rfl ⟨rfl, hw1, hm1⟩)
theorem t38_ok {m : Nat → Nat → Int} (hT : tw m) (hF : tF m = -9) (hP : (pr (m 1 1) (tx m) 40 1 [] []).1 = -9) : ∀ hc, y_in yGw hc → gi hc = m → ∃ hc1 hc2 hc', f_M 24 [.ref 1] hc (some (fi (tF m))) hc1 ∧ gi hc1 = m ∧ f_M 31 [.ref 3, .ref 1] hc1 none hc2 ∧ cP (gi hc2) (pr (m 1 1) (tx m) 40 1 [] []).2.1 (pr (m 1 1) (tx m) 40 1 [] []).2.2 ∧ f_M 38 [.ref 0] hc (some (fi (10 * (gi hc2) 3 5 + (gi hc2) 3 6))) hc' ∧ y_in yGw hc' ∧ gi hc' = hallC (gi hc2) := fun hc hw hm => by
  obtain ⟨hcf, mf, hwf, emf⟩ := t24 hT hc hw hm
  have key : x_W none (1, 0, 1, 0, 10, 4, 91, 0, 0, ev_t38) 0 (lv_args 0 [.ref 0]) [] hc 0 0 (fun r h' => ∃ hc2, f_M 31 [.ref 3, .ref 1] hcf none hc2 ∧ cP (gi hc2) (pr (m 1 1) (tx m) 40 1 [] []).2.1 (pr (m 1 1) (tx m) 40 1 [] []).2.2 ∧ y_in yGw h' ∧ gi h' = hallC (gi hc2) ∧ r = some (fi (10 * (gi hc2) 3 5 + (gi hc2) 3 6))) := by
    have hL : f_L (lv_args 0 [.ref 0]) [(0, .ref 0)] := f_L_of rfl
    generalize lv_args 0 [.ref 0] = L at hL
    refine f_aln 0 rfl hL rfl ?_
    refine m_gfr so0 rfl hw rfl (by decide) ?_
    refine f_k1 mf rfl rfl rfl (m_ar so1 hw rfl) rfl ?_
    refine f_bipush (n := -9) rfl (by decide) ?_
    refine f_ic rfl (by show -2147483648 ≤ tF m ∧ tF m ≤ 2147483647; rw [hF]; decide) (by decide) (fun _ => ?_) (fun c_9 => absurd (show (tF m : Int) = (-9 : Int) from hF) c_9)
    refine f_aln 0 rfl hL rfl ?_
    refine m_gfr so0 rfl hwf rfl (by decide) ?_
    refine f_aln 0 rfl hL rfl ?_
    refine m_gfr so0 rfl hwf rfl (by decide) ?_
    obtain ⟨hcr, mr, hwr, hOr⟩ := t31 hT hP hcf hwf emf
    obtain ⟨fs3, q3, -⟩ := so3 hcf hwf
    refine f_k0 mr rfl rfl rfl (f_ar_v q3 rfl) rfl ?_
    refine f_aln 0 rfl hL rfl ?_
    refine m_gfr so0 rfl hwr rfl (by decide) ?_
    refine m_k0 t33 hwr rfl rfl rfl rfl (m_ar so9 hwr rfl) rfl (fun hc2 hw2 hm2 => ?_)
    refine f_aln 0 rfl hL rfl ?_
    refine m_gfr so0 rfl hw2 rfl (by decide) ?_
    refine m_k0 t34 hw2 hm2 rfl rfl rfl (m_ar so17 hw2 rfl) rfl (fun hc3 hw3 hm3 => ?_)
    refine f_aln 0 rfl hL rfl ?_
    refine m_gfr so0 rfl hw3 rfl (by decide) ?_
    refine m_k0 t35 hw3 hm3 rfl rfl rfl (m_ar so33 hw3 rfl) rfl (fun hc4 hw4 hm4 => ?_)
    refine f_bipush (n := 10) rfl (by decide) ?_
    refine f_aln 0 rfl hL rfl ?_
    refine m_gfr so0 rfl hw4 rfl (by decide) ?_
    refine m_k1 t36 hw4 hm4 rfl rfl rfl (m_ar so3 hw4 rfl) rfl (fun hc5 hw5 hm5 => ?_)
    refine f_imul rfl ?_
    refine f_aln 0 rfl hL rfl ?_
    refine m_gfr so0 rfl hw5 rfl (by decide) ?_
    refine m_k1 t37 hw5 hm5 rfl rfl rfl (m_ar so3 hw5 rfl) rfl (fun hc6 hw6 hm6 => ?_)
    refine f_iadd rfl ?_
    exact f_ret1 rfl ⟨hcr, mr, hOr, hw6, hm6, rfl⟩
  obtain ⟨n, r, h', e, hc2, e1, e2, e3, e4, rfl⟩ := key
  exact ⟨hcf, hc2, h', mf, emf, e1, e2, fun R hR => by cases hR; exact ⟨n, e⟩, e3, e4⟩
def hallM (m : Nat → Nat → Int) : Nat → Nat → Int := (up (up (up (up (up (up (up (up (up (up (up (up (up (up (up (up (up (up (up (up (up (up (up (up (up (up (up (up (up (up (up (up (up (up (up (up (up (up (up (up (up (up (up (up (up (up m 55 0 (m 55 10)) 55 1 (m 55 11)) 61 0 (-9)) 61 1 (-9)) 61 2 (-9)) 61 3 (-9)) 61 4 (-9)) 61 5 (0)) 61 6 (0)) 61 7 (0)) 61 8 (0)) 61 9 (0)) 61 10 (0)) 61 11 (0)) 61 12 (0)) 61 13 (0)) 61 14 (0)) 61 15 (0)) 61 16 (0)) 61 17 (0)) 56 0 (m 62 0)) 57 0 (m 62 1)) 56 1 (m 62 2)) 57 1 (m 62 3)) 56 2 (m 62 4)) 57 2 (m 62 5)) 56 3 (m 62 6)) 57 3 (m 62 7)) 58 0 (m 63 0)) 59 0 (m 63 1)) 60 0 (iA (m 63 2) ((iS (1) (m 55 10)) - 1))) 58 1 (m 63 3)) 59 1 (m 63 4)) 60 1 (iA (m 63 5) ((iS (1) (m 55 10)) - 1))) 58 2 (m 63 6)) 59 2 (m 63 7)) 60 2 (iA (m 63 8) ((iS (1) (m 55 10)) - 1))) 58 3 (m 63 9)) 59 3 (m 63 10)) 60 3 (iA (m 63 11) ((iS (1) (m 55 10)) - 1))) 58 4 (m 63 12)) 59 4 (m 63 13)) 60 4 (iA (m 63 14) ((iS (1) (m 55 10)) - 1))) 55 16 (0)) 70 0 (0)) 70 1 (0))
theorem t39_bad {m : Nat → Nat → Int} {ln : Int} {t : Int → Int} (hM : tM m ln t) (rF : -2147483648 ≤ tG ln t ∧ tG ln t ≤ 2147483647) (hF : ¬ tG ln t = -9) : ∀ hc, y_in yGw hc → gi hc = m → ∃ hc', f_M 39 [.ref 55] hc (some (fi (-3))) hc' ∧ f_M 27 [.ref 55] hc (some (fi (tG ln t))) hc' := fun hc hw hm => by
  obtain ⟨hcr, mr, hwr, -⟩ := t27 hM hc hw hm
  obtain ⟨fs, q55, -⟩ := so55 hc hw
  have key : x_W none (1, 0, 2, 0, 11, 3, 70, 0, 0, ev_t39) 0 (lv_args 0 [.ref 55]) [] hc 0 0 (fun r h' => (r, h') = (some (fi (-3)), hcr)) := by
    have hL : f_L (lv_args 0 [.ref 55]) [(0, .ref 55)] := f_L_of rfl
    generalize lv_args 0 [.ref 55] = L at hL
    refine f_aln 0 rfl hL rfl ?_
    refine f_k1 mr rfl rfl rfl (f_ar_v q55 rfl) rfl ?_
    refine f_bipush (n := -9) rfl (by decide) ?_
    refine f_ic rfl (by omega) (by omega) (fun c_9 => absurd (show (tG ln t : Int) = (-9 : Int) from c_9) hF) (fun _ => ?_)
    refine f_bipush (n := -3) rfl (by decide) ?_
    exact f_ret1 rfl rfl
  obtain ⟨n, r, h', e, e2⟩ := key
  cases e2
  exact ⟨hcr, fun R hR => by cases hR; exact ⟨n, e⟩, mr⟩
set_option maxHeartbeats 4000000 in
set_option maxRecDepth 10000 in
theorem t39_ok {m : Nat → Nat → Int} {ln : Int} {t : Int → Int} (hM : tM m ln t) (hF : tG ln t = -9) : ∀ hc, y_in yGw hc → gi hc = m → ∃ hcr hc', f_M 27 [.ref 55] hc (some (fi (tG ln t))) hcr ∧ pOK (gi hcr) (pr ln t 40 1 [] []).2.1 (pr ln t 40 1 [] []).2.2 ∧ f_M 39 [.ref 55] hc (some (fi (10 * (gi hcr) 55 10 + (gi hcr) 55 11))) hc' ∧ y_in yGw hc' ∧ gi hc' = hallM (gi hcr) := fun hc hw hm => by
  obtain ⟨hcr, mr, hwr, hOr⟩ := t27 hM hc hw hm
  obtain ⟨fs, q55, -⟩ := so55 hc hw
  have hR := gi_r hcr
  have key : x_W none (1, 0, 2, 0, 11, 3, 70, 0, 0, ev_t39) 0 (lv_args 0 [.ref 55]) [] hc 0 0 (fun r h' => y_in yGw h' ∧ gi h' = hallM (gi hcr) ∧ r = some (fi (10 * (gi hcr) 55 10 + (gi hcr) 55 11))) := by
    have hL : f_L (lv_args 0 [.ref 55]) [(0, .ref 55)] := f_L_of rfl
    generalize lv_args 0 [.ref 55] = L at hL
    refine f_aln 0 rfl hL rfl ?_
    refine f_k1 mr rfl rfl rfl (f_ar_v q55 rfl) rfl ?_
    refine f_bipush (n := -9) rfl (by decide) ?_
    refine f_ic rfl (by rw [hF]; decide) (by decide) (fun _ => ?_) (fun c_9 => absurd (show (tG ln t : Int) = (-9 : Int) from hF) c_9)
    refine f_aln 0 rfl hL rfl ?_
    refine f_aln 0 rfl hL rfl ?_
    refine m_gfi so55 ((gi hcr) 55 10) rfl hwr rfl rfl rfl ?_
    refine m_pf so55 rfl hwr rfl rfl rfl (hR 55 10) (fun hc1 hw1 hm1 => ?_)
    refine f_aln 0 rfl hL rfl ?_
    refine f_aln 0 rfl hL rfl ?_
    refine m_gfi so55 ((gi hcr) 55 11) rfl hw1 hm1 rfl rfl ?_
    refine m_pf so55 rfl hw1 hm1 rfl rfl (hR 55 11) (fun hc2 hw2 hm2 => ?_)
    refine f_s [fi (0)] rfl rfl ?_
    refine f_istn [(1, fi (0)), (0, .ref 55)] rfl (by decide) hL rfl (fun L1 hL1 => ?_)
    refine f_iln 0 rfl hL1 rfl ?_
    refine f_bipush (n := 18) rfl (by decide) ?_
    refine f_ic rfl (by decide) (by decide) (fun c_9 => absurd (show (18 : Int) ≤ (0 : Int) from c_9) (by decide)) (fun _ => ?_)
    refine f_aln 1 rfl hL1 rfl ?_
    refine m_gfr so55 rfl hw2 rfl (by decide) ?_
    refine f_iln 0 rfl hL1 rfl ?_
    refine f_iln 0 rfl hL1 rfl ?_
    refine f_s [fi (5), fi (0), fi (0), .ref 61] rfl rfl ?_
    refine f_ic rfl (by decide) (by decide) (fun c_9 => absurd (show (5 : Int) ≤ (0 : Int) from c_9) (by decide)) (fun _ => ?_)
    refine f_bipush (n := -9) rfl (by decide) ?_
    refine f_goto rfl ?_
    refine m_ias sa61 rfl hw2 hm2 (by decide) (by decide) (by decide) (by decide) (fun hc3 hw3 hm3 => ?_)
    refine f_inc 0 [(1, fi (1)), (0, .ref 55)] rfl (by decide) hL1 rfl rfl (fun L2 hL2 => ?_)
    refine f_goto rfl ?_
    refine f_iln 0 rfl hL2 rfl ?_
    refine f_bipush (n := 18) rfl (by decide) ?_
    refine f_ic rfl (by decide) (by decide) (fun c_9 => absurd (show (18 : Int) ≤ (1 : Int) from c_9) (by decide)) (fun _ => ?_)
    refine f_aln 1 rfl hL2 rfl ?_
    refine m_gfr so55 rfl hw3 rfl (by decide) ?_
    refine f_iln 0 rfl hL2 rfl ?_
    refine f_iln 0 rfl hL2 rfl ?_
    refine f_s [fi (5), fi (1), fi (1), .ref 61] rfl rfl ?_
    refine f_ic rfl (by decide) (by decide) (fun c_9 => absurd (show (5 : Int) ≤ (1 : Int) from c_9) (by decide)) (fun _ => ?_)
    refine f_bipush (n := -9) rfl (by decide) ?_
    refine f_goto rfl ?_
    refine m_ias sa61 rfl hw3 hm3 (by decide) (by decide) (by decide) (by decide) (fun hc4 hw4 hm4 => ?_)
    refine f_inc 0 [(1, fi (2)), (0, .ref 55)] rfl (by decide) hL2 rfl rfl (fun L3 hL3 => ?_)
    refine f_goto rfl ?_
    refine f_iln 0 rfl hL3 rfl ?_
    refine f_bipush (n := 18) rfl (by decide) ?_
    refine f_ic rfl (by decide) (by decide) (fun c_9 => absurd (show (18 : Int) ≤ (2 : Int) from c_9) (by decide)) (fun _ => ?_)
    refine f_aln 1 rfl hL3 rfl ?_
    refine m_gfr so55 rfl hw4 rfl (by decide) ?_
    refine f_iln 0 rfl hL3 rfl ?_
    refine f_iln 0 rfl hL3 rfl ?_
    refine f_s [fi (5), fi (2), fi (2), .ref 61] rfl rfl ?_
    refine f_ic rfl (by decide) (by decide) (fun c_9 => absurd (show (5 : Int) ≤ (2 : Int) from c_9) (by decide)) (fun _ => ?_)
    refine f_bipush (n := -9) rfl (by decide) ?_
    refine f_goto rfl ?_
    refine m_ias sa61 rfl hw4 hm4 (by decide) (by decide) (by decide) (by decide) (fun hc5 hw5 hm5 => ?_)
    refine f_inc 0 [(1, fi (3)), (0, .ref 55)] rfl (by decide) hL3 rfl rfl (fun L4 hL4 => ?_)
    refine f_goto rfl ?_
    refine f_iln 0 rfl hL4 rfl ?_
    refine f_bipush (n := 18) rfl (by decide) ?_
    refine f_ic rfl (by decide) (by decide) (fun c_9 => absurd (show (18 : Int) ≤ (3 : Int) from c_9) (by decide)) (fun _ => ?_)
    refine f_aln 1 rfl hL4 rfl ?_
    refine m_gfr so55 rfl hw5 rfl (by decide) ?_
    refine f_iln 0 rfl hL4 rfl ?_
    refine f_iln 0 rfl hL4 rfl ?_
    refine f_s [fi (5), fi (3), fi (3), .ref 61] rfl rfl ?_
    refine f_ic rfl (by decide) (by decide) (fun c_9 => absurd (show (5 : Int) ≤ (3 : Int) from c_9) (by decide)) (fun _ => ?_)
    refine f_bipush (n := -9) rfl (by decide) ?_
    refine f_goto rfl ?_
    refine m_ias sa61 rfl hw5 hm5 (by decide) (by decide) (by decide) (by decide) (fun hc6 hw6 hm6 => ?_)
    refine f_inc 0 [(1, fi (4)), (0, .ref 55)] rfl (by decide) hL4 rfl rfl (fun L5 hL5 => ?_)
    refine f_goto rfl ?_
    refine f_iln 0 rfl hL5 rfl ?_
    refine f_bipush (n := 18) rfl (by decide) ?_
    refine f_ic rfl (by decide) (by decide) (fun c_9 => absurd (show (18 : Int) ≤ (4 : Int) from c_9) (by decide)) (fun _ => ?_)
    refine f_aln 1 rfl hL5 rfl ?_
    refine m_gfr so55 rfl hw6 rfl (by decide) ?_
    refine f_iln 0 rfl hL5 rfl ?_
    refine f_iln 0 rfl hL5 rfl ?_
    refine f_s [fi (5), fi (4), fi (4), .ref 61] rfl rfl ?_
    refine f_ic rfl (by decide) (by decide) (fun c_9 => absurd (show (5 : Int) ≤ (4 : Int) from c_9) (by decide)) (fun _ => ?_)
    refine f_bipush (n := -9) rfl (by decide) ?_
    refine f_goto rfl ?_
    refine m_ias sa61 rfl hw6 hm6 (by decide) (by decide) (by decide) (by decide) (fun hc7 hw7 hm7 => ?_)
    refine f_inc 0 [(1, fi (5)), (0, .ref 55)] rfl (by decide) hL5 rfl rfl (fun L6 hL6 => ?_)
    refine f_goto rfl ?_
    refine f_iln 0 rfl hL6 rfl ?_
    refine f_bipush (n := 18) rfl (by decide) ?_
    refine f_ic rfl (by decide) (by decide) (fun c_9 => absurd (show (18 : Int) ≤ (5 : Int) from c_9) (by decide)) (fun _ => ?_)
    refine f_aln 1 rfl hL6 rfl ?_
    refine m_gfr so55 rfl hw7 rfl (by decide) ?_
    refine f_iln 0 rfl hL6 rfl ?_
    refine f_iln 0 rfl hL6 rfl ?_
    refine f_s [fi (5), fi (5), fi (5), .ref 61] rfl rfl ?_
    refine f_ic rfl (by decide) (by decide) (fun _ => ?_) (fun c_9 => absurd (show (5 : Int) ≤ (5 : Int) from (by decide)) c_9)
    refine f_s [fi (0), fi (5), .ref 61] rfl rfl ?_
    refine m_ias sa61 rfl hw7 hm7 (by decide) (by decide) (by decide) (by decide) (fun hc8 hw8 hm8 => ?_)
    refine f_inc 0 [(1, fi (6)), (0, .ref 55)] rfl (by decide) hL6 rfl rfl (fun L7 hL7 => ?_)
    refine f_goto rfl ?_
    refine f_iln 0 rfl hL7 rfl ?_
    refine f_bipush (n := 18) rfl (by decide) ?_
    refine f_ic rfl (by decide) (by decide) (fun c_9 => absurd (show (18 : Int) ≤ (6 : Int) from c_9) (by decide)) (fun _ => ?_)
    refine f_aln 1 rfl hL7 rfl ?_
    refine m_gfr so55 rfl hw8 rfl (by decide) ?_
    refine f_iln 0 rfl hL7 rfl ?_
    refine f_iln 0 rfl hL7 rfl ?_
    refine f_s [fi (5), fi (6), fi (6), .ref 61] rfl rfl ?_
    refine f_ic rfl (by decide) (by decide) (fun _ => ?_) (fun c_9 => absurd (show (5 : Int) ≤ (6 : Int) from (by decide)) c_9)
    refine f_s [fi (0), fi (6), .ref 61] rfl rfl ?_
    refine m_ias sa61 rfl hw8 hm8 (by decide) (by decide) (by decide) (by decide) (fun hc9 hw9 hm9 => ?_)
    refine f_inc 0 [(1, fi (7)), (0, .ref 55)] rfl (by decide) hL7 rfl rfl (fun L8 hL8 => ?_)
    refine f_goto rfl ?_
    refine f_iln 0 rfl hL8 rfl ?_
    refine f_bipush (n := 18) rfl (by decide) ?_
    refine f_ic rfl (by decide) (by decide) (fun c_9 => absurd (show (18 : Int) ≤ (7 : Int) from c_9) (by decide)) (fun _ => ?_)
    refine f_aln 1 rfl hL8 rfl ?_
    refine m_gfr so55 rfl hw9 rfl (by decide) ?_
    refine f_iln 0 rfl hL8 rfl ?_
    refine f_iln 0 rfl hL8 rfl ?_
    refine f_s [fi (5), fi (7), fi (7), .ref 61] rfl rfl ?_
    refine f_ic rfl (by decide) (by decide) (fun _ => ?_) (fun c_9 => absurd (show (5 : Int) ≤ (7 : Int) from (by decide)) c_9)
    refine f_s [fi (0), fi (7), .ref 61] rfl rfl ?_
    refine m_ias sa61 rfl hw9 hm9 (by decide) (by decide) (by decide) (by decide) (fun hc10 hw10 hm10 => ?_)
    refine f_inc 0 [(1, fi (8)), (0, .ref 55)] rfl (by decide) hL8 rfl rfl (fun L9 hL9 => ?_)
    refine f_goto rfl ?_
    refine f_iln 0 rfl hL9 rfl ?_
    refine f_bipush (n := 18) rfl (by decide) ?_
    refine f_ic rfl (by decide) (by decide) (fun c_9 => absurd (show (18 : Int) ≤ (8 : Int) from c_9) (by decide)) (fun _ => ?_)
    refine f_aln 1 rfl hL9 rfl ?_
    refine m_gfr so55 rfl hw10 rfl (by decide) ?_
    refine f_iln 0 rfl hL9 rfl ?_
    refine f_iln 0 rfl hL9 rfl ?_
    refine f_s [fi (5), fi (8), fi (8), .ref 61] rfl rfl ?_
    refine f_ic rfl (by decide) (by decide) (fun _ => ?_) (fun c_9 => absurd (show (5 : Int) ≤ (8 : Int) from (by decide)) c_9)
    refine f_s [fi (0), fi (8), .ref 61] rfl rfl ?_
    refine m_ias sa61 rfl hw10 hm10 (by decide) (by decide) (by decide) (by decide) (fun hc11 hw11 hm11 => ?_)
    refine f_inc 0 [(1, fi (9)), (0, .ref 55)] rfl (by decide) hL9 rfl rfl (fun L10 hL10 => ?_)
    refine f_goto rfl ?_
    refine f_iln 0 rfl hL10 rfl ?_
    refine f_bipush (n := 18) rfl (by decide) ?_
    refine f_ic rfl (by decide) (by decide) (fun c_9 => absurd (show (18 : Int) ≤ (9 : Int) from c_9) (by decide)) (fun _ => ?_)
    refine f_aln 1 rfl hL10 rfl ?_
    refine m_gfr so55 rfl hw11 rfl (by decide) ?_
    refine f_iln 0 rfl hL10 rfl ?_
    refine f_iln 0 rfl hL10 rfl ?_
    refine f_s [fi (5), fi (9), fi (9), .ref 61] rfl rfl ?_
    refine f_ic rfl (by decide) (by decide) (fun _ => ?_) (fun c_9 => absurd (show (5 : Int) ≤ (9 : Int) from (by decide)) c_9)
    refine f_s [fi (0), fi (9), .ref 61] rfl rfl ?_
    refine m_ias sa61 rfl hw11 hm11 (by decide) (by decide) (by decide) (by decide) (fun hc12 hw12 hm12 => ?_)
    refine f_inc 0 [(1, fi (10)), (0, .ref 55)] rfl (by decide) hL10 rfl rfl (fun L11 hL11 => ?_)
    refine f_goto rfl ?_
    refine f_iln 0 rfl hL11 rfl ?_
    refine f_bipush (n := 18) rfl (by decide) ?_
    refine f_ic rfl (by decide) (by decide) (fun c_9 => absurd (show (18 : Int) ≤ (10 : Int) from c_9) (by decide)) (fun _ => ?_)
    refine f_aln 1 rfl hL11 rfl ?_
    refine m_gfr so55 rfl hw12 rfl (by decide) ?_
    refine f_iln 0 rfl hL11 rfl ?_
    refine f_iln 0 rfl hL11 rfl ?_
    refine f_s [fi (5), fi (10), fi (10), .ref 61] rfl rfl ?_
    refine f_ic rfl (by decide) (by decide) (fun _ => ?_) (fun c_9 => absurd (show (5 : Int) ≤ (10 : Int) from (by decide)) c_9)
    refine f_s [fi (0), fi (10), .ref 61] rfl rfl ?_
    refine m_ias sa61 rfl hw12 hm12 (by decide) (by decide) (by decide) (by decide) (fun hc13 hw13 hm13 => ?_)
    refine f_inc 0 [(1, fi (11)), (0, .ref 55)] rfl (by decide) hL11 rfl rfl (fun L12 hL12 => ?_)
    refine f_goto rfl ?_
    refine f_iln 0 rfl hL12 rfl ?_
    refine f_bipush (n := 18) rfl (by decide) ?_
    refine f_ic rfl (by decide) (by decide) (fun c_9 => absurd (show (18 : Int) ≤ (11 : Int) from c_9) (by decide)) (fun _ => ?_)
    refine f_aln 1 rfl hL12 rfl ?_
    refine m_gfr so55 rfl hw13 rfl (by decide) ?_
    refine f_iln 0 rfl hL12 rfl ?_
    refine f_iln 0 rfl hL12 rfl ?_
    refine f_s [fi (5), fi (11), fi (11), .ref 61] rfl rfl ?_
    refine f_ic rfl (by decide) (by decide) (fun _ => ?_) (fun c_9 => absurd (show (5 : Int) ≤ (11 : Int) from (by decide)) c_9)
    refine f_s [fi (0), fi (11), .ref 61] rfl rfl ?_
    refine m_ias sa61 rfl hw13 hm13 (by decide) (by decide) (by decide) (by decide) (fun hc14 hw14 hm14 => ?_)
    refine f_inc 0 [(1, fi (12)), (0, .ref 55)] rfl (by decide) hL12 rfl rfl (fun L13 hL13 => ?_)
    refine f_goto rfl ?_
    refine f_iln 0 rfl hL13 rfl ?_
    refine f_bipush (n := 18) rfl (by decide) ?_
    refine f_ic rfl (by decide) (by decide) (fun c_9 => absurd (show (18 : Int) ≤ (12 : Int) from c_9) (by decide)) (fun _ => ?_)
    refine f_aln 1 rfl hL13 rfl ?_
    refine m_gfr so55 rfl hw14 rfl (by decide) ?_
    refine f_iln 0 rfl hL13 rfl ?_
    refine f_iln 0 rfl hL13 rfl ?_
    refine f_s [fi (5), fi (12), fi (12), .ref 61] rfl rfl ?_
    refine f_ic rfl (by decide) (by decide) (fun _ => ?_) (fun c_9 => absurd (show (5 : Int) ≤ (12 : Int) from (by decide)) c_9)
    refine f_s [fi (0), fi (12), .ref 61] rfl rfl ?_
    refine m_ias sa61 rfl hw14 hm14 (by decide) (by decide) (by decide) (by decide) (fun hc15 hw15 hm15 => ?_)
    refine f_inc 0 [(1, fi (13)), (0, .ref 55)] rfl (by decide) hL13 rfl rfl (fun L14 hL14 => ?_)
    refine f_goto rfl ?_
    refine f_iln 0 rfl hL14 rfl ?_
    refine f_bipush (n := 18) rfl (by decide) ?_
    refine f_ic rfl (by decide) (by decide) (fun c_9 => absurd (show (18 : Int) ≤ (13 : Int) from c_9) (by decide)) (fun _ => ?_)
    refine f_aln 1 rfl hL14 rfl ?_
    refine m_gfr so55 rfl hw15 rfl (by decide) ?_
    refine f_iln 0 rfl hL14 rfl ?_
    refine f_iln 0 rfl hL14 rfl ?_
    refine f_s [fi (5), fi (13), fi (13), .ref 61] rfl rfl ?_
    refine f_ic rfl (by decide) (by decide) (fun _ => ?_) (fun c_9 => absurd (show (5 : Int) ≤ (13 : Int) from (by decide)) c_9)
    refine f_s [fi (0), fi (13), .ref 61] rfl rfl ?_
    refine m_ias sa61 rfl hw15 hm15 (by decide) (by decide) (by decide) (by decide) (fun hc16 hw16 hm16 => ?_)
    refine f_inc 0 [(1, fi (14)), (0, .ref 55)] rfl (by decide) hL14 rfl rfl (fun L15 hL15 => ?_)
    refine f_goto rfl ?_
    refine f_iln 0 rfl hL15 rfl ?_
    refine f_bipush (n := 18) rfl (by decide) ?_
    refine f_ic rfl (by decide) (by decide) (fun c_9 => absurd (show (18 : Int) ≤ (14 : Int) from c_9) (by decide)) (fun _ => ?_)
    refine f_aln 1 rfl hL15 rfl ?_
    refine m_gfr so55 rfl hw16 rfl (by decide) ?_
    refine f_iln 0 rfl hL15 rfl ?_
    refine f_iln 0 rfl hL15 rfl ?_
    refine f_s [fi (5), fi (14), fi (14), .ref 61] rfl rfl ?_
    refine f_ic rfl (by decide) (by decide) (fun _ => ?_) (fun c_9 => absurd (show (5 : Int) ≤ (14 : Int) from (by decide)) c_9)
    refine f_s [fi (0), fi (14), .ref 61] rfl rfl ?_
    refine m_ias sa61 rfl hw16 hm16 (by decide) (by decide) (by decide) (by decide) (fun hc17 hw17 hm17 => ?_)
    refine f_inc 0 [(1, fi (15)), (0, .ref 55)] rfl (by decide) hL15 rfl rfl (fun L16 hL16 => ?_)
    refine f_goto rfl ?_
    refine f_iln 0 rfl hL16 rfl ?_
    refine f_bipush (n := 18) rfl (by decide) ?_
    refine f_ic rfl (by decide) (by decide) (fun c_9 => absurd (show (18 : Int) ≤ (15 : Int) from c_9) (by decide)) (fun _ => ?_)
    refine f_aln 1 rfl hL16 rfl ?_
    refine m_gfr so55 rfl hw17 rfl (by decide) ?_
    refine f_iln 0 rfl hL16 rfl ?_
    refine f_iln 0 rfl hL16 rfl ?_
    refine f_s [fi (5), fi (15), fi (15), .ref 61] rfl rfl ?_
    refine f_ic rfl (by decide) (by decide) (fun _ => ?_) (fun c_9 => absurd (show (5 : Int) ≤ (15 : Int) from (by decide)) c_9)
    refine f_s [fi (0), fi (15), .ref 61] rfl rfl ?_
    refine m_ias sa61 rfl hw17 hm17 (by decide) (by decide) (by decide) (by decide) (fun hc18 hw18 hm18 => ?_)
    refine f_inc 0 [(1, fi (16)), (0, .ref 55)] rfl (by decide) hL16 rfl rfl (fun L17 hL17 => ?_)
    refine f_goto rfl ?_
    refine f_iln 0 rfl hL17 rfl ?_
    refine f_bipush (n := 18) rfl (by decide) ?_
    refine f_ic rfl (by decide) (by decide) (fun c_9 => absurd (show (18 : Int) ≤ (16 : Int) from c_9) (by decide)) (fun _ => ?_)
    refine f_aln 1 rfl hL17 rfl ?_
    refine m_gfr so55 rfl hw18 rfl (by decide) ?_
    refine f_iln 0 rfl hL17 rfl ?_
    refine f_iln 0 rfl hL17 rfl ?_
    refine f_s [fi (5), fi (16), fi (16), .ref 61] rfl rfl ?_
    refine f_ic rfl (by decide) (by decide) (fun _ => ?_) (fun c_9 => absurd (show (5 : Int) ≤ (16 : Int) from (by decide)) c_9)
    refine f_s [fi (0), fi (16), .ref 61] rfl rfl ?_
    refine m_ias sa61 rfl hw18 hm18 (by decide) (by decide) (by decide) (by decide) (fun hc19 hw19 hm19 => ?_)
    refine f_inc 0 [(1, fi (17)), (0, .ref 55)] rfl (by decide) hL17 rfl rfl (fun L18 hL18 => ?_)
    refine f_goto rfl ?_
    refine f_iln 0 rfl hL18 rfl ?_
    refine f_bipush (n := 18) rfl (by decide) ?_
    refine f_ic rfl (by decide) (by decide) (fun c_9 => absurd (show (18 : Int) ≤ (17 : Int) from c_9) (by decide)) (fun _ => ?_)
    refine f_aln 1 rfl hL18 rfl ?_
    refine m_gfr so55 rfl hw19 rfl (by decide) ?_
    refine f_iln 0 rfl hL18 rfl ?_
    refine f_iln 0 rfl hL18 rfl ?_
    refine f_s [fi (5), fi (17), fi (17), .ref 61] rfl rfl ?_
    refine f_ic rfl (by decide) (by decide) (fun _ => ?_) (fun c_9 => absurd (show (5 : Int) ≤ (17 : Int) from (by decide)) c_9)
    refine f_s [fi (0), fi (17), .ref 61] rfl rfl ?_
    refine m_ias sa61 rfl hw19 hm19 (by decide) (by decide) (by decide) (by decide) (fun hc20 hw20 hm20 => ?_)
    refine f_inc 0 [(1, fi (18)), (0, .ref 55)] rfl (by decide) hL18 rfl rfl (fun L19 hL19 => ?_)
    refine f_goto rfl ?_
    refine f_iln 0 rfl hL19 rfl ?_
    refine f_bipush (n := 18) rfl (by decide) ?_
    refine f_ic rfl (by decide) (by decide) (fun _ => ?_) (fun c_9 => absurd (show (18 : Int) ≤ (18 : Int) from (by decide)) c_9)
    refine f_s [fi (0)] rfl rfl ?_
    refine f_istn [(1, fi (0)), (0, .ref 55)] rfl (by decide) hL19 rfl (fun L20 hL20 => ?_)
    refine f_iln 0 rfl hL20 rfl ?_
    refine f_s [fi (4), fi (0)] rfl rfl ?_
    refine f_ic rfl (by decide) (by decide) (fun c_9 => absurd (show (4 : Int) ≤ (0 : Int) from c_9) (by decide)) (fun _ => ?_)
    refine f_aln 1 rfl hL20 rfl ?_
    refine m_gfr so55 rfl hw20 rfl (by decide) ?_
    refine f_iln 0 rfl hL20 rfl ?_
    refine f_aln 1 rfl hL20 rfl ?_
    refine m_gfr so55 rfl hw20 rfl (by decide) ?_
    refine f_s [fi (2), .ref 62, fi (0), .ref 56] rfl rfl ?_
    refine f_iln 0 rfl hL20 rfl ?_
    refine f_imul rfl ?_
    refine b_eq (x := 0) (by decide) ?_
    refine m_ia sa62 ((gi hcr) 62 0) rfl hw20 hm20 (by decide) (by decide) (by decide) rfl ?_
    refine m_ias sa56 rfl hw20 hm20 (by decide) (by decide) (by decide) (hR 62 0) (fun hc21 hw21 hm21 => ?_)
    refine f_aln 1 rfl hL20 rfl ?_
    refine m_gfr so55 rfl hw21 rfl (by decide) ?_
    refine f_iln 0 rfl hL20 rfl ?_
    refine f_aln 1 rfl hL20 rfl ?_
    refine m_gfr so55 rfl hw21 rfl (by decide) ?_
    refine f_s [fi (2), .ref 62, fi (0), .ref 57] rfl rfl ?_
    refine f_iln 0 rfl hL20 rfl ?_
    refine f_imul rfl ?_
    refine b_eq (x := 0) (by decide) ?_
    refine f_s [fi (1), fi (0), .ref 62, fi (0), .ref 57] rfl rfl ?_
    refine f_iadd rfl ?_
    refine b_eq (x := 1) (by decide) ?_
    refine m_ia sa62 ((gi hcr) 62 1) rfl hw21 hm21 (by decide) (by decide) (by decide) rfl ?_
    refine m_ias sa57 rfl hw21 hm21 (by decide) (by decide) (by decide) (hR 62 1) (fun hc22 hw22 hm22 => ?_)
    refine f_inc 0 [(1, fi (1)), (0, .ref 55)] rfl (by decide) hL20 rfl rfl (fun L21 hL21 => ?_)
    refine f_goto rfl ?_
    refine f_iln 0 rfl hL21 rfl ?_
    refine f_s [fi (4), fi (1)] rfl rfl ?_
    refine f_ic rfl (by decide) (by decide) (fun c_9 => absurd (show (4 : Int) ≤ (1 : Int) from c_9) (by decide)) (fun _ => ?_)
    refine f_aln 1 rfl hL21 rfl ?_
    refine m_gfr so55 rfl hw22 rfl (by decide) ?_
    refine f_iln 0 rfl hL21 rfl ?_
    refine f_aln 1 rfl hL21 rfl ?_
    refine m_gfr so55 rfl hw22 rfl (by decide) ?_
    refine f_s [fi (2), .ref 62, fi (1), .ref 56] rfl rfl ?_
    refine f_iln 0 rfl hL21 rfl ?_
    refine f_imul rfl ?_
    refine b_eq (x := 2) (by decide) ?_
    refine m_ia sa62 ((gi hcr) 62 2) rfl hw22 hm22 (by decide) (by decide) (by decide) rfl ?_
    refine m_ias sa56 rfl hw22 hm22 (by decide) (by decide) (by decide) (hR 62 2) (fun hc23 hw23 hm23 => ?_)
    refine f_aln 1 rfl hL21 rfl ?_
    refine m_gfr so55 rfl hw23 rfl (by decide) ?_
    refine f_iln 0 rfl hL21 rfl ?_
    refine f_aln 1 rfl hL21 rfl ?_
    refine m_gfr so55 rfl hw23 rfl (by decide) ?_
    refine f_s [fi (2), .ref 62, fi (1), .ref 57] rfl rfl ?_
    refine f_iln 0 rfl hL21 rfl ?_
    refine f_imul rfl ?_
    refine b_eq (x := 2) (by decide) ?_
    refine f_s [fi (1), fi (2), .ref 62, fi (1), .ref 57] rfl rfl ?_
    refine f_iadd rfl ?_
    refine b_eq (x := 3) (by decide) ?_
    refine m_ia sa62 ((gi hcr) 62 3) rfl hw23 hm23 (by decide) (by decide) (by decide) rfl ?_
    refine m_ias sa57 rfl hw23 hm23 (by decide) (by decide) (by decide) (hR 62 3) (fun hc24 hw24 hm24 => ?_)
    refine f_inc 0 [(1, fi (2)), (0, .ref 55)] rfl (by decide) hL21 rfl rfl (fun L22 hL22 => ?_)
    refine f_goto rfl ?_
    refine f_iln 0 rfl hL22 rfl ?_
    refine f_s [fi (4), fi (2)] rfl rfl ?_
    refine f_ic rfl (by decide) (by decide) (fun c_9 => absurd (show (4 : Int) ≤ (2 : Int) from c_9) (by decide)) (fun _ => ?_)
    refine f_aln 1 rfl hL22 rfl ?_
    refine m_gfr so55 rfl hw24 rfl (by decide) ?_
    refine f_iln 0 rfl hL22 rfl ?_
    refine f_aln 1 rfl hL22 rfl ?_
    refine m_gfr so55 rfl hw24 rfl (by decide) ?_
    refine f_s [fi (2), .ref 62, fi (2), .ref 56] rfl rfl ?_
    refine f_iln 0 rfl hL22 rfl ?_
    refine f_imul rfl ?_
    refine b_eq (x := 4) (by decide) ?_
    refine m_ia sa62 ((gi hcr) 62 4) rfl hw24 hm24 (by decide) (by decide) (by decide) rfl ?_
    refine m_ias sa56 rfl hw24 hm24 (by decide) (by decide) (by decide) (hR 62 4) (fun hc25 hw25 hm25 => ?_)
    refine f_aln 1 rfl hL22 rfl ?_
    refine m_gfr so55 rfl hw25 rfl (by decide) ?_
    refine f_iln 0 rfl hL22 rfl ?_
    refine f_aln 1 rfl hL22 rfl ?_
    refine m_gfr so55 rfl hw25 rfl (by decide) ?_
    refine f_s [fi (2), .ref 62, fi (2), .ref 57] rfl rfl ?_
    refine f_iln 0 rfl hL22 rfl ?_
    refine f_imul rfl ?_
    refine b_eq (x := 4) (by decide) ?_
    refine f_s [fi (1), fi (4), .ref 62, fi (2), .ref 57] rfl rfl ?_
    refine f_iadd rfl ?_
    refine b_eq (x := 5) (by decide) ?_
    refine m_ia sa62 ((gi hcr) 62 5) rfl hw25 hm25 (by decide) (by decide) (by decide) rfl ?_
    refine m_ias sa57 rfl hw25 hm25 (by decide) (by decide) (by decide) (hR 62 5) (fun hc26 hw26 hm26 => ?_)
    refine f_inc 0 [(1, fi (3)), (0, .ref 55)] rfl (by decide) hL22 rfl rfl (fun L23 hL23 => ?_)
    refine f_goto rfl ?_
    refine f_iln 0 rfl hL23 rfl ?_
    refine f_s [fi (4), fi (3)] rfl rfl ?_
    refine f_ic rfl (by decide) (by decide) (fun c_9 => absurd (show (4 : Int) ≤ (3 : Int) from c_9) (by decide)) (fun _ => ?_)
    refine f_aln 1 rfl hL23 rfl ?_
    refine m_gfr so55 rfl hw26 rfl (by decide) ?_
    refine f_iln 0 rfl hL23 rfl ?_
    refine f_aln 1 rfl hL23 rfl ?_
    refine m_gfr so55 rfl hw26 rfl (by decide) ?_
    refine f_s [fi (2), .ref 62, fi (3), .ref 56] rfl rfl ?_
    refine f_iln 0 rfl hL23 rfl ?_
    refine f_imul rfl ?_
    refine b_eq (x := 6) (by decide) ?_
    refine m_ia sa62 ((gi hcr) 62 6) rfl hw26 hm26 (by decide) (by decide) (by decide) rfl ?_
    refine m_ias sa56 rfl hw26 hm26 (by decide) (by decide) (by decide) (hR 62 6) (fun hc27 hw27 hm27 => ?_)
    refine f_aln 1 rfl hL23 rfl ?_
    refine m_gfr so55 rfl hw27 rfl (by decide) ?_
    refine f_iln 0 rfl hL23 rfl ?_
    refine f_aln 1 rfl hL23 rfl ?_
    refine m_gfr so55 rfl hw27 rfl (by decide) ?_
    refine f_s [fi (2), .ref 62, fi (3), .ref 57] rfl rfl ?_
    refine f_iln 0 rfl hL23 rfl ?_
    refine f_imul rfl ?_
    refine b_eq (x := 6) (by decide) ?_
    refine f_s [fi (1), fi (6), .ref 62, fi (3), .ref 57] rfl rfl ?_
    refine f_iadd rfl ?_
    refine b_eq (x := 7) (by decide) ?_
    refine m_ia sa62 ((gi hcr) 62 7) rfl hw27 hm27 (by decide) (by decide) (by decide) rfl ?_
    refine m_ias sa57 rfl hw27 hm27 (by decide) (by decide) (by decide) (hR 62 7) (fun hc28 hw28 hm28 => ?_)
    refine f_inc 0 [(1, fi (4)), (0, .ref 55)] rfl (by decide) hL23 rfl rfl (fun L24 hL24 => ?_)
    refine f_goto rfl ?_
    refine f_iln 0 rfl hL24 rfl ?_
    refine f_s [fi (4), fi (4)] rfl rfl ?_
    refine f_ic rfl (by decide) (by decide) (fun _ => ?_) (fun c_9 => absurd (show (4 : Int) ≤ (4 : Int) from (by decide)) c_9)
    refine f_s [fi (0)] rfl rfl ?_
    refine f_istn [(1, fi (0)), (0, .ref 55)] rfl (by decide) hL24 rfl (fun L25 hL25 => ?_)
    refine f_iln 0 rfl hL25 rfl ?_
    refine f_s [fi (5), fi (0)] rfl rfl ?_
    refine f_ic rfl (by decide) (by decide) (fun c_9 => absurd (show (5 : Int) ≤ (0 : Int) from c_9) (by decide)) (fun _ => ?_)
    refine f_aln 1 rfl hL25 rfl ?_
    refine m_gfr so55 rfl hw28 rfl (by decide) ?_
    refine f_iln 0 rfl hL25 rfl ?_
    refine f_aln 1 rfl hL25 rfl ?_
    refine m_gfr so55 rfl hw28 rfl (by decide) ?_
    refine f_s [fi (3), .ref 63, fi (0), .ref 58] rfl rfl ?_
    refine f_iln 0 rfl hL25 rfl ?_
    refine f_imul rfl ?_
    refine b_eq (x := 0) (by decide) ?_
    refine m_ia sa63 ((gi hcr) 63 0) rfl hw28 hm28 (by decide) (by decide) (by decide) rfl ?_
    refine m_ias sa58 rfl hw28 hm28 (by decide) (by decide) (by decide) (hR 63 0) (fun hc29 hw29 hm29 => ?_)
    refine f_aln 1 rfl hL25 rfl ?_
    refine m_gfr so55 rfl hw29 rfl (by decide) ?_
    refine f_iln 0 rfl hL25 rfl ?_
    refine f_aln 1 rfl hL25 rfl ?_
    refine m_gfr so55 rfl hw29 rfl (by decide) ?_
    refine f_s [fi (3), .ref 63, fi (0), .ref 59] rfl rfl ?_
    refine f_iln 0 rfl hL25 rfl ?_
    refine f_imul rfl ?_
    refine b_eq (x := 0) (by decide) ?_
    refine f_s [fi (1), fi (0), .ref 63, fi (0), .ref 59] rfl rfl ?_
    refine f_iadd rfl ?_
    refine b_eq (x := 1) (by decide) ?_
    refine m_ia sa63 ((gi hcr) 63 1) rfl hw29 hm29 (by decide) (by decide) (by decide) rfl ?_
    refine m_ias sa59 rfl hw29 hm29 (by decide) (by decide) (by decide) (hR 63 1) (fun hc30 hw30 hm30 => ?_)
    refine f_aln 1 rfl hL25 rfl ?_
    refine m_gfr so55 rfl hw30 rfl (by decide) ?_
    refine f_iln 0 rfl hL25 rfl ?_
    refine f_aln 1 rfl hL25 rfl ?_
    refine m_gfr so55 rfl hw30 rfl (by decide) ?_
    refine f_s [fi (3), .ref 63, fi (0), .ref 60] rfl rfl ?_
    refine f_iln 0 rfl hL25 rfl ?_
    refine f_imul rfl ?_
    refine b_eq (x := 0) (by decide) ?_
    refine f_s [fi (2), fi (0), .ref 63, fi (0), .ref 60] rfl rfl ?_
    refine f_iadd rfl ?_
    refine b_eq (x := 2) (by decide) ?_
    refine m_ia sa63 ((gi hcr) 63 2) rfl hw30 hm30 (by decide) (by decide) (by decide) rfl ?_
    refine f_s [fi (1), fi ((gi hcr) 63 2), fi (0), .ref 60] rfl rfl ?_
    refine f_aln 1 rfl hL25 rfl ?_
    refine m_gfi so55 ((gi hcr) 55 10) rfl hw30 hm30 rfl rfl ?_
    refine b_ishl rfl ?_
    refine f_s [fi (1), fi (iS (1) ((gi hcr) 55 10)), fi ((gi hcr) 63 2), fi (0), .ref 60] rfl rfl ?_
    refine f_isub rfl ?_
    refine b_iand rfl ?_
    refine m_ias sa60 rfl hw30 hm30 (by decide) (by decide) (by decide) iA_r (fun hc31 hw31 hm31 => ?_)
    refine f_inc 0 [(1, fi (1)), (0, .ref 55)] rfl (by decide) hL25 rfl rfl (fun L26 hL26 => ?_)
    refine f_goto rfl ?_
    refine f_iln 0 rfl hL26 rfl ?_
    refine f_s [fi (5), fi (1)] rfl rfl ?_
    refine f_ic rfl (by decide) (by decide) (fun c_9 => absurd (show (5 : Int) ≤ (1 : Int) from c_9) (by decide)) (fun _ => ?_)
    refine f_aln 1 rfl hL26 rfl ?_
    refine m_gfr so55 rfl hw31 rfl (by decide) ?_
    refine f_iln 0 rfl hL26 rfl ?_
    refine f_aln 1 rfl hL26 rfl ?_
    refine m_gfr so55 rfl hw31 rfl (by decide) ?_
    refine f_s [fi (3), .ref 63, fi (1), .ref 58] rfl rfl ?_
    refine f_iln 0 rfl hL26 rfl ?_
    refine f_imul rfl ?_
    refine b_eq (x := 3) (by decide) ?_
    refine m_ia sa63 ((gi hcr) 63 3) rfl hw31 hm31 (by decide) (by decide) (by decide) rfl ?_
    refine m_ias sa58 rfl hw31 hm31 (by decide) (by decide) (by decide) (hR 63 3) (fun hc32 hw32 hm32 => ?_)
    refine f_aln 1 rfl hL26 rfl ?_
    refine m_gfr so55 rfl hw32 rfl (by decide) ?_
    refine f_iln 0 rfl hL26 rfl ?_
    refine f_aln 1 rfl hL26 rfl ?_
    refine m_gfr so55 rfl hw32 rfl (by decide) ?_
    refine f_s [fi (3), .ref 63, fi (1), .ref 59] rfl rfl ?_
    refine f_iln 0 rfl hL26 rfl ?_
    refine f_imul rfl ?_
    refine b_eq (x := 3) (by decide) ?_
    refine f_s [fi (1), fi (3), .ref 63, fi (1), .ref 59] rfl rfl ?_
    refine f_iadd rfl ?_
    refine b_eq (x := 4) (by decide) ?_
    refine m_ia sa63 ((gi hcr) 63 4) rfl hw32 hm32 (by decide) (by decide) (by decide) rfl ?_
    refine m_ias sa59 rfl hw32 hm32 (by decide) (by decide) (by decide) (hR 63 4) (fun hc33 hw33 hm33 => ?_)
    refine f_aln 1 rfl hL26 rfl ?_
    refine m_gfr so55 rfl hw33 rfl (by decide) ?_
    refine f_iln 0 rfl hL26 rfl ?_
    refine f_aln 1 rfl hL26 rfl ?_
    refine m_gfr so55 rfl hw33 rfl (by decide) ?_
    refine f_s [fi (3), .ref 63, fi (1), .ref 60] rfl rfl ?_
    refine f_iln 0 rfl hL26 rfl ?_
    refine f_imul rfl ?_
    refine b_eq (x := 3) (by decide) ?_
    refine f_s [fi (2), fi (3), .ref 63, fi (1), .ref 60] rfl rfl ?_
    refine f_iadd rfl ?_
    refine b_eq (x := 5) (by decide) ?_
    refine m_ia sa63 ((gi hcr) 63 5) rfl hw33 hm33 (by decide) (by decide) (by decide) rfl ?_
    refine f_s [fi (1), fi ((gi hcr) 63 5), fi (1), .ref 60] rfl rfl ?_
    refine f_aln 1 rfl hL26 rfl ?_
    refine m_gfi so55 ((gi hcr) 55 10) rfl hw33 hm33 rfl rfl ?_
    refine b_ishl rfl ?_
    refine f_s [fi (1), fi (iS (1) ((gi hcr) 55 10)), fi ((gi hcr) 63 5), fi (1), .ref 60] rfl rfl ?_
    refine f_isub rfl ?_
    refine b_iand rfl ?_
    refine m_ias sa60 rfl hw33 hm33 (by decide) (by decide) (by decide) iA_r (fun hc34 hw34 hm34 => ?_)
    refine f_inc 0 [(1, fi (2)), (0, .ref 55)] rfl (by decide) hL26 rfl rfl (fun L27 hL27 => ?_)
    refine f_goto rfl ?_
    refine f_iln 0 rfl hL27 rfl ?_
    refine f_s [fi (5), fi (2)] rfl rfl ?_
    refine f_ic rfl (by decide) (by decide) (fun c_9 => absurd (show (5 : Int) ≤ (2 : Int) from c_9) (by decide)) (fun _ => ?_)
    refine f_aln 1 rfl hL27 rfl ?_
    refine m_gfr so55 rfl hw34 rfl (by decide) ?_
    refine f_iln 0 rfl hL27 rfl ?_
    refine f_aln 1 rfl hL27 rfl ?_
    refine m_gfr so55 rfl hw34 rfl (by decide) ?_
    refine f_s [fi (3), .ref 63, fi (2), .ref 58] rfl rfl ?_
    refine f_iln 0 rfl hL27 rfl ?_
    refine f_imul rfl ?_
    refine b_eq (x := 6) (by decide) ?_
    refine m_ia sa63 ((gi hcr) 63 6) rfl hw34 hm34 (by decide) (by decide) (by decide) rfl ?_
    refine m_ias sa58 rfl hw34 hm34 (by decide) (by decide) (by decide) (hR 63 6) (fun hc35 hw35 hm35 => ?_)
    refine f_aln 1 rfl hL27 rfl ?_
    refine m_gfr so55 rfl hw35 rfl (by decide) ?_
    refine f_iln 0 rfl hL27 rfl ?_
    refine f_aln 1 rfl hL27 rfl ?_
    refine m_gfr so55 rfl hw35 rfl (by decide) ?_
    refine f_s [fi (3), .ref 63, fi (2), .ref 59] rfl rfl ?_
    refine f_iln 0 rfl hL27 rfl ?_
    refine f_imul rfl ?_
    refine b_eq (x := 6) (by decide) ?_
    refine f_s [fi (1), fi (6), .ref 63, fi (2), .ref 59] rfl rfl ?_
    refine f_iadd rfl ?_
    refine b_eq (x := 7) (by decide) ?_
    refine m_ia sa63 ((gi hcr) 63 7) rfl hw35 hm35 (by decide) (by decide) (by decide) rfl ?_
    refine m_ias sa59 rfl hw35 hm35 (by decide) (by decide) (by decide) (hR 63 7) (fun hc36 hw36 hm36 => ?_)
    refine f_aln 1 rfl hL27 rfl ?_
    refine m_gfr so55 rfl hw36 rfl (by decide) ?_
    refine f_iln 0 rfl hL27 rfl ?_
    refine f_aln 1 rfl hL27 rfl ?_
    refine m_gfr so55 rfl hw36 rfl (by decide) ?_
    refine f_s [fi (3), .ref 63, fi (2), .ref 60] rfl rfl ?_
    refine f_iln 0 rfl hL27 rfl ?_
    refine f_imul rfl ?_
    refine b_eq (x := 6) (by decide) ?_
    refine f_s [fi (2), fi (6), .ref 63, fi (2), .ref 60] rfl rfl ?_
    refine f_iadd rfl ?_
    refine b_eq (x := 8) (by decide) ?_
    refine m_ia sa63 ((gi hcr) 63 8) rfl hw36 hm36 (by decide) (by decide) (by decide) rfl ?_
    refine f_s [fi (1), fi ((gi hcr) 63 8), fi (2), .ref 60] rfl rfl ?_
    refine f_aln 1 rfl hL27 rfl ?_
    refine m_gfi so55 ((gi hcr) 55 10) rfl hw36 hm36 rfl rfl ?_
    refine b_ishl rfl ?_
    refine f_s [fi (1), fi (iS (1) ((gi hcr) 55 10)), fi ((gi hcr) 63 8), fi (2), .ref 60] rfl rfl ?_
    refine f_isub rfl ?_
    refine b_iand rfl ?_
    refine m_ias sa60 rfl hw36 hm36 (by decide) (by decide) (by decide) iA_r (fun hc37 hw37 hm37 => ?_)
    refine f_inc 0 [(1, fi (3)), (0, .ref 55)] rfl (by decide) hL27 rfl rfl (fun L28 hL28 => ?_)
    refine f_goto rfl ?_
    refine f_iln 0 rfl hL28 rfl ?_
    refine f_s [fi (5), fi (3)] rfl rfl ?_
    refine f_ic rfl (by decide) (by decide) (fun c_9 => absurd (show (5 : Int) ≤ (3 : Int) from c_9) (by decide)) (fun _ => ?_)
    refine f_aln 1 rfl hL28 rfl ?_
    refine m_gfr so55 rfl hw37 rfl (by decide) ?_
    refine f_iln 0 rfl hL28 rfl ?_
    refine f_aln 1 rfl hL28 rfl ?_
    refine m_gfr so55 rfl hw37 rfl (by decide) ?_
    refine f_s [fi (3), .ref 63, fi (3), .ref 58] rfl rfl ?_
    refine f_iln 0 rfl hL28 rfl ?_
    refine f_imul rfl ?_
    refine b_eq (x := 9) (by decide) ?_
    refine m_ia sa63 ((gi hcr) 63 9) rfl hw37 hm37 (by decide) (by decide) (by decide) rfl ?_
    refine m_ias sa58 rfl hw37 hm37 (by decide) (by decide) (by decide) (hR 63 9) (fun hc38 hw38 hm38 => ?_)
    refine f_aln 1 rfl hL28 rfl ?_
    refine m_gfr so55 rfl hw38 rfl (by decide) ?_
    refine f_iln 0 rfl hL28 rfl ?_
    refine f_aln 1 rfl hL28 rfl ?_
    refine m_gfr so55 rfl hw38 rfl (by decide) ?_
    refine f_s [fi (3), .ref 63, fi (3), .ref 59] rfl rfl ?_
    refine f_iln 0 rfl hL28 rfl ?_
    refine f_imul rfl ?_
    refine b_eq (x := 9) (by decide) ?_
    refine f_s [fi (1), fi (9), .ref 63, fi (3), .ref 59] rfl rfl ?_
    refine f_iadd rfl ?_
    refine b_eq (x := 10) (by decide) ?_
    refine m_ia sa63 ((gi hcr) 63 10) rfl hw38 hm38 (by decide) (by decide) (by decide) rfl ?_
    refine m_ias sa59 rfl hw38 hm38 (by decide) (by decide) (by decide) (hR 63 10) (fun hc39 hw39 hm39 => ?_)
    refine f_aln 1 rfl hL28 rfl ?_
    refine m_gfr so55 rfl hw39 rfl (by decide) ?_
    refine f_iln 0 rfl hL28 rfl ?_
    refine f_aln 1 rfl hL28 rfl ?_
    refine m_gfr so55 rfl hw39 rfl (by decide) ?_
    refine f_s [fi (3), .ref 63, fi (3), .ref 60] rfl rfl ?_
    refine f_iln 0 rfl hL28 rfl ?_
    refine f_imul rfl ?_
    refine b_eq (x := 9) (by decide) ?_
    refine f_s [fi (2), fi (9), .ref 63, fi (3), .ref 60] rfl rfl ?_
    refine f_iadd rfl ?_
    refine b_eq (x := 11) (by decide) ?_
    refine m_ia sa63 ((gi hcr) 63 11) rfl hw39 hm39 (by decide) (by decide) (by decide) rfl ?_
    refine f_s [fi (1), fi ((gi hcr) 63 11), fi (3), .ref 60] rfl rfl ?_
    refine f_aln 1 rfl hL28 rfl ?_
    refine m_gfi so55 ((gi hcr) 55 10) rfl hw39 hm39 rfl rfl ?_
    refine b_ishl rfl ?_
    refine f_s [fi (1), fi (iS (1) ((gi hcr) 55 10)), fi ((gi hcr) 63 11), fi (3), .ref 60] rfl rfl ?_
    refine f_isub rfl ?_
    refine b_iand rfl ?_
    refine m_ias sa60 rfl hw39 hm39 (by decide) (by decide) (by decide) iA_r (fun hc40 hw40 hm40 => ?_)
    refine f_inc 0 [(1, fi (4)), (0, .ref 55)] rfl (by decide) hL28 rfl rfl (fun L29 hL29 => ?_)
    refine f_goto rfl ?_
    refine f_iln 0 rfl hL29 rfl ?_
    refine f_s [fi (5), fi (4)] rfl rfl ?_
    refine f_ic rfl (by decide) (by decide) (fun c_9 => absurd (show (5 : Int) ≤ (4 : Int) from c_9) (by decide)) (fun _ => ?_)
    refine f_aln 1 rfl hL29 rfl ?_
    refine m_gfr so55 rfl hw40 rfl (by decide) ?_
    refine f_iln 0 rfl hL29 rfl ?_
    refine f_aln 1 rfl hL29 rfl ?_
    refine m_gfr so55 rfl hw40 rfl (by decide) ?_
    refine f_s [fi (3), .ref 63, fi (4), .ref 58] rfl rfl ?_
    refine f_iln 0 rfl hL29 rfl ?_
    refine f_imul rfl ?_
    refine b_eq (x := 12) (by decide) ?_
    refine m_ia sa63 ((gi hcr) 63 12) rfl hw40 hm40 (by decide) (by decide) (by decide) rfl ?_
    refine m_ias sa58 rfl hw40 hm40 (by decide) (by decide) (by decide) (hR 63 12) (fun hc41 hw41 hm41 => ?_)
    refine f_aln 1 rfl hL29 rfl ?_
    refine m_gfr so55 rfl hw41 rfl (by decide) ?_
    refine f_iln 0 rfl hL29 rfl ?_
    refine f_aln 1 rfl hL29 rfl ?_
    refine m_gfr so55 rfl hw41 rfl (by decide) ?_
    refine f_s [fi (3), .ref 63, fi (4), .ref 59] rfl rfl ?_
    refine f_iln 0 rfl hL29 rfl ?_
    refine f_imul rfl ?_
    refine b_eq (x := 12) (by decide) ?_
    refine f_s [fi (1), fi (12), .ref 63, fi (4), .ref 59] rfl rfl ?_
    refine f_iadd rfl ?_
    refine b_eq (x := 13) (by decide) ?_
    refine m_ia sa63 ((gi hcr) 63 13) rfl hw41 hm41 (by decide) (by decide) (by decide) rfl ?_
    refine m_ias sa59 rfl hw41 hm41 (by decide) (by decide) (by decide) (hR 63 13) (fun hc42 hw42 hm42 => ?_)
    refine f_aln 1 rfl hL29 rfl ?_
    refine m_gfr so55 rfl hw42 rfl (by decide) ?_
    refine f_iln 0 rfl hL29 rfl ?_
    refine f_aln 1 rfl hL29 rfl ?_
    refine m_gfr so55 rfl hw42 rfl (by decide) ?_
    refine f_s [fi (3), .ref 63, fi (4), .ref 60] rfl rfl ?_
    refine f_iln 0 rfl hL29 rfl ?_
    refine f_imul rfl ?_
    refine b_eq (x := 12) (by decide) ?_
    refine f_s [fi (2), fi (12), .ref 63, fi (4), .ref 60] rfl rfl ?_
    refine f_iadd rfl ?_
    refine b_eq (x := 14) (by decide) ?_
    refine m_ia sa63 ((gi hcr) 63 14) rfl hw42 hm42 (by decide) (by decide) (by decide) rfl ?_
    refine f_s [fi (1), fi ((gi hcr) 63 14), fi (4), .ref 60] rfl rfl ?_
    refine f_aln 1 rfl hL29 rfl ?_
    refine m_gfi so55 ((gi hcr) 55 10) rfl hw42 hm42 rfl rfl ?_
    refine b_ishl rfl ?_
    refine f_s [fi (1), fi (iS (1) ((gi hcr) 55 10)), fi ((gi hcr) 63 14), fi (4), .ref 60] rfl rfl ?_
    refine f_isub rfl ?_
    refine b_iand rfl ?_
    refine m_ias sa60 rfl hw42 hm42 (by decide) (by decide) (by decide) iA_r (fun hc43 hw43 hm43 => ?_)
    refine f_inc 0 [(1, fi (5)), (0, .ref 55)] rfl (by decide) hL29 rfl rfl (fun L30 hL30 => ?_)
    refine f_goto rfl ?_
    refine f_iln 0 rfl hL30 rfl ?_
    refine f_s [fi (5), fi (5)] rfl rfl ?_
    refine f_ic rfl (by decide) (by decide) (fun _ => ?_) (fun c_9 => absurd (show (5 : Int) ≤ (5 : Int) from (by decide)) c_9)
    refine f_aln 1 rfl hL30 rfl ?_
    refine f_s [fi (0), .ref 55] rfl rfl ?_
    refine m_pf so55 rfl hw43 hm43 rfl rfl (by decide) (fun hc44 hw44 hm44 => ?_)
    refine f_aln 1 rfl hL30 rfl ?_
    refine m_gfr so55 rfl hw44 rfl (by decide) ?_
    refine f_s [fi (0), .ref 70] rfl rfl ?_
    refine f_s [fi (0), fi (0), .ref 70] rfl rfl ?_
    refine m_bas sa70 rfl hw44 hm44 (by decide) (by decide) (by decide) (by decide) (fun hc45 hw45 hm45 => ?_)
    refine f_aln 1 rfl hL30 rfl ?_
    refine m_gfr so55 rfl hw45 rfl (by decide) ?_
    refine f_s [fi (1), .ref 70] rfl rfl ?_
    refine f_s [fi (0), fi (1), .ref 70] rfl rfl ?_
    refine m_bas sa70 rfl hw45 hm45 (by decide) (by decide) (by decide) (by decide) (fun hc46 hw46 hm46 => ?_)
    refine f_bipush (n := 10) rfl (by decide) ?_
    refine f_aln 1 rfl hL30 rfl ?_
    refine m_gfi so55 ((gi hcr) 55 10) rfl hw46 hm46 rfl rfl ?_
    refine f_imul rfl ?_
    refine f_aln 1 rfl hL30 rfl ?_
    refine m_gfi so55 ((gi hcr) 55 11) rfl hw46 hm46 rfl rfl ?_
    refine f_iadd rfl ?_
    exact f_ret1 rfl ⟨hw46, hm46, rfl⟩
  obtain ⟨n, r, h', e, e2, e3, rfl⟩ := key
  exact ⟨hcr, h', mr, hOr hF, fun R hR => by cases hR; exact ⟨n, e⟩, e2, e3⟩
