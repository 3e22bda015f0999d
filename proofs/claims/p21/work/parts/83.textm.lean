/-! how the reference reads its text -/
theorem hM15 {m : Nat → Nat → Int} (x y z : Int) (hx : -9223372036854775808 ≤ x ∧ x ≤ 9223372036854775807) (hy : -9223372036854775808 ≤ y ∧ y ≤ 9223372036854775807) (hz : -9223372036854775808 ≤ z ∧ z ≤ 9223372036854775807) : h_M 15 [fl x, fl y, fl z] m (some (fi (if y ≤ x ∧ x ≤ z then 1 else 0))) m := fun hc hw hm => ⟨hc, f15 hc x y z hx hy hz, hw, hm⟩
/-- what stands in the rows of names and people that were read -/
def pOK (m : Nat → Nat → Int) (ns : pNs) (ps : pPs) : Prop := m 55 10 = (ns.length : Int) ∧ m 55 11 = (ps.length : Int) ∧ (∀ (k : Nat) (e : Int × Int), ns[k]? = some e → m 62 (2 * k) = e.1 ∧ m 62 (2 * k + 1) = e.2) ∧ (∀ (k : Nat) (e : Int × Int × Int), ps[k]? = some e → m 63 (3 * k) = e.1 ∧ m 63 (3 * k + 1) = e.2.1 ∧ m 63 (3 * k + 2) = e.2.2)
theorem pOK_n {m m' : Nat → Nat → Int} {ns : pNs} {ps : pPs} {v1 v2 : Int} (h : pOK m ns ps) (h10 : m' 55 10 = (ns.length : Int) + 1) (h11 : m' 55 11 = m 55 11) (h63 : ∀ i, m' 63 i = m 63 i) (h62 : ∀ i, m' 62 i = if i = 2 * ns.length + 1 then v2 else if i = 2 * ns.length then v1 else m 62 i) : pOK m' (ns ++ [(v1, v2)]) ps := by
  obtain ⟨a1, a2, a3, a4⟩ := h
  refine ⟨by rw [h10, List.length_append]; rfl, by rw [h11]; exact a2, fun k e hk => ?_, fun k e hk => by rw [h63, h63, h63]; exact a4 k e hk⟩
  rw [List.getElem?_append] at hk
  split at hk
  · rename_i hl
    rw [h62, h62, if_neg (by omega), if_neg (by omega), if_neg (by omega), if_neg (by omega)]
    exact a3 k e hk
  · rename_i hl
    have hz := (List.getElem?_eq_some_iff.mp hk).1
    simp only [List.length_singleton] at hz
    have e0 : k = ns.length := by omega
    subst e0
    rw [Nat.sub_self] at hk
    cases hk
    rw [h62, h62, if_neg (by omega), if_pos rfl, if_pos rfl]
    exact ⟨rfl, rfl⟩
theorem pOK_p {m m' : Nat → Nat → Int} {ns : pNs} {ps : pPs} {v1 v2 v3 : Int} (h : pOK m ns ps) (h10 : m' 55 10 = m 55 10) (h11 : m' 55 11 = (ps.length : Int) + 1) (h62 : ∀ i, m' 62 i = m 62 i) (h63 : ∀ i, m' 63 i = if i = 3 * ps.length + 2 then v3 else if i = 3 * ps.length + 1 then v2 else if i = 3 * ps.length then v1 else m 63 i) : pOK m' ns (ps ++ [(v1, v2, v3)]) := by
  obtain ⟨a1, a2, a3, a4⟩ := h
  refine ⟨by rw [h10]; exact a1, by rw [h11, List.length_append]; rfl, fun k e hk => by rw [h62, h62]; exact a3 k e hk, fun k e hk => ?_⟩
  rw [List.getElem?_append] at hk
  split at hk
  · rename_i hl
    rw [h63, h63, h63, if_neg (by omega), if_neg (by omega), if_neg (by omega), if_neg (by omega), if_neg (by omega), if_neg (by omega), if_neg (by omega), if_neg (by omega), if_neg (by omega)]
    exact a4 k e hk
  · rename_i hl
    have hz := (List.getElem?_eq_some_iff.mp hk).1
    simp only [List.length_singleton] at hz
    have e0 : k = ps.length := by omega
    subst e0
    rw [Nat.sub_self] at hk
    cases hk
    rw [h63, h63, h63, if_neg (by omega), if_neg (by omega), if_pos rfl, if_neg (by omega), if_pos rfl, if_pos rfl]
    exact ⟨rfl, rfl, rfl⟩
/-- the reference's text is t, of length ln -/
def tM (m : Nat → Nat → Int) (ln : Int) (t : Int → Int) : Prop := m 55 13 = ln ∧ (0 ≤ ln ∧ ln ≤ 40) ∧ (∀ i : Int, 0 ≤ i → i < ln → m 64 i.toNat = t i) ∧ (∀ i : Int, 0 ≤ t i ∧ t i ≤ 65535) ∧ (ln ≤ 0 → t 0 = 0)
theorem t26_ok {ln : Int} {m : Nat → Nat → Int} {p a b f : Int} (h14 : m 55 14 = p) (p1 : 0 ≤ p) (p2 : p ≤ 100) (h13 : m 55 13 = ln) (ln1 : 0 ≤ ln) (ln2 : ln ≤ 40) (ra : 48 ≤ a ∧ a ≤ 65535) (rb : 0 ≤ b ∧ b ≤ 65535) (rf : 0 ≤ f ∧ f ≤ 65535) (h15 : m 55 15 = -9) (hp : p < ln) {v : Int} (hv : m 64 (p).toNat = v) (v1 : a ≤ v) (v2 : v ≤ b) : h_M 26 [.ref 55, fi (a), fi (b), fi (f)] m (some (fi (v - f))) (up m 55 14 (p + 1)) := h_M_of (R := ev_r26) rfl (fun hc hw hm => by
  have hL : f_L (lv_args 0 [.ref 55, fi (a), fi (b), fi (f)]) [(0, .ref 55), (1, fi (a)), (2, fi (b)), (3, fi (f))] := f_L_of rfl
  generalize lv_args 0 [.ref 55, fi (a), fi (b), fi (f)] = L at hL
  show x_W none (1, 0, 5, 3, 11, 1, 25, 0, 0, ev_t26) 0 L [] hc 0 0 _
  refine f_aln 0 rfl hL rfl ?_
  refine m_gfi so55 (-9) rfl hw hm rfl h15 ?_
  refine f_bipush (n := -9) rfl (by decide) ?_
  refine f_ic rfl (by decide) (by decide) (fun c_9 => absurd (show ¬ (-9 : Int) = (-9 : Int) from c_9) (by decide)) (fun _ => ?_)
  refine f_aln 0 rfl hL rfl ?_
  refine m_gfi so55 (p) rfl hw hm rfl h14 ?_
  refine f_aln 0 rfl hL rfl ?_
  refine m_gfi so55 (ln) rfl hw hm rfl h13 ?_
  refine f_ic rfl (by omega) (by omega) (fun c_9 => absurd (show (ln : Int) ≤ (p : Int) from c_9) (by omega)) (fun _ => ?_)
  refine f_aln 0 rfl hL rfl ?_
  refine m_gfr so55 rfl hw rfl (by decide) ?_
  refine f_aln 0 rfl hL rfl ?_
  refine m_gfi so55 (p) rfl hw hm rfl h14 ?_
  refine m_ia sa64 (v) rfl hw hm (by omega) (by omega) (by decide) hv ?_
  refine f_goto rfl ?_
  refine f_ist [(4, fi (v)), (0, .ref 55), (1, fi (a)), (2, fi (b)), (3, fi (f))] rfl (by decide) hL rfl (fun L1 hL1 => ?_)
  refine f_il 0 rfl hL1 rfl ?_
  refine f_i2l rfl (by omega) ?_
  refine f_iln 2 rfl hL1 rfl ?_
  refine f_i2l rfl (by omega) ?_
  refine f_iln 3 rfl hL1 rfl ?_
  refine f_i2l rfl (by omega) ?_
  refine m_k1 (hM15 (v) a b (by omega) (by omega) (by omega)) hw hm rfl rfl rfl rfl rfl (fun hc1 hw1 hm1 => ?_)
  refine f_if rfl (by split <;> omega) (fun _ => ?_) (fun c_9 => absurd (show ¬ (if a ≤ v ∧ v ≤ b then 1 else 0 : Int) = (0 : Int) from (by rw [if_pos ⟨v1, v2⟩]; decide)) c_9)
  refine f_aln 1 rfl hL1 rfl ?_
  refine f_s [.ref 55, .ref 55] rfl rfl ?_
  refine m_gfi so55 (p) rfl hw1 hm1 rfl h14 ?_
  refine f_s [fi (1), fi (p), .ref 55] rfl rfl ?_
  refine f_iadd rfl ?_
  refine m_pf so55 rfl hw1 hm1 rfl rfl (by omega) (fun hc2 hw2 hm2 => ?_)
  refine f_il 0 rfl hL1 rfl ?_
  refine f_iln 4 rfl hL1 rfl ?_
  refine f_isub rfl ?_
  exact f_ret1 rfl ⟨rfl, hw2, hm2⟩)
theorem t26_bad {ln : Int} {m : Nat → Nat → Int} {p a b f : Int} (h14 : m 55 14 = p) (p1 : 0 ≤ p) (p2 : p ≤ 100) (h13 : m 55 13 = ln) (ln1 : 0 ≤ ln) (ln2 : ln ≤ 40) (ra : 48 ≤ a ∧ a ≤ 65535) (rb : 0 ≤ b ∧ b ≤ 65535) (rf : 0 ≤ f ∧ f ≤ 65535) (h15 : m 55 15 = -9) (hp : p < ln) {v : Int} (hv : m 64 (p).toNat = v) (rv : 0 ≤ v ∧ v ≤ 65535) (hb : ¬ (a ≤ v ∧ v ≤ b)) : h_M 26 [.ref 55, fi (a), fi (b), fi (f)] m (some (fi (0))) (up m 55 15 p) := h_M_of (R := ev_r26) rfl (fun hc hw hm => by
  have hL : f_L (lv_args 0 [.ref 55, fi (a), fi (b), fi (f)]) [(0, .ref 55), (1, fi (a)), (2, fi (b)), (3, fi (f))] := f_L_of rfl
  generalize lv_args 0 [.ref 55, fi (a), fi (b), fi (f)] = L at hL
  show x_W none (1, 0, 5, 3, 11, 1, 25, 0, 0, ev_t26) 0 L [] hc 0 0 _
  refine f_aln 0 rfl hL rfl ?_
  refine m_gfi so55 (-9) rfl hw hm rfl h15 ?_
  refine f_bipush (n := -9) rfl (by decide) ?_
  refine f_ic rfl (by decide) (by decide) (fun c_9 => absurd (show ¬ (-9 : Int) = (-9 : Int) from c_9) (by decide)) (fun _ => ?_)
  refine f_aln 0 rfl hL rfl ?_
  refine m_gfi so55 (p) rfl hw hm rfl h14 ?_
  refine f_aln 0 rfl hL rfl ?_
  refine m_gfi so55 (ln) rfl hw hm rfl h13 ?_
  refine f_ic rfl (by omega) (by omega) (fun c_9 => absurd (show (ln : Int) ≤ (p : Int) from c_9) (by omega)) (fun _ => ?_)
  refine f_aln 0 rfl hL rfl ?_
  refine m_gfr so55 rfl hw rfl (by decide) ?_
  refine f_aln 0 rfl hL rfl ?_
  refine m_gfi so55 (p) rfl hw hm rfl h14 ?_
  refine m_ia sa64 (v) rfl hw hm (by omega) (by omega) (by decide) hv ?_
  refine f_goto rfl ?_
  refine f_ist [(4, fi (v)), (0, .ref 55), (1, fi (a)), (2, fi (b)), (3, fi (f))] rfl (by decide) hL rfl (fun L1 hL1 => ?_)
  refine f_il 0 rfl hL1 rfl ?_
  refine f_i2l rfl (by omega) ?_
  refine f_iln 2 rfl hL1 rfl ?_
  refine f_i2l rfl (by omega) ?_
  refine f_iln 3 rfl hL1 rfl ?_
  refine f_i2l rfl (by omega) ?_
  refine m_k1 (hM15 (v) a b (by omega) (by omega) (by omega)) hw hm rfl rfl rfl rfl rfl (fun hc1 hw1 hm1 => ?_)
  refine f_if rfl (by split <;> omega) (fun c_9 => absurd (show ¬ (if a ≤ v ∧ v ≤ b then 1 else 0 : Int) = (0 : Int) from c_9) (by rw [if_neg hb]; exact fun z => z rfl)) (fun _ => ?_)
  refine f_aln 1 rfl hL1 rfl ?_
  refine f_aln 1 rfl hL1 rfl ?_
  refine m_gfi so55 (-9) rfl hw1 hm1 rfl h15 ?_
  refine f_bipush (n := -9) rfl (by decide) ?_
  refine f_ic rfl (by decide) (by decide) (fun c_9 => absurd (show ¬ (-9 : Int) = (-9 : Int) from c_9) (by decide)) (fun _ => ?_)
  refine f_aln 1 rfl hL1 rfl ?_
  refine m_gfi so55 (p) rfl hw1 hm1 rfl h14 ?_
  refine f_goto rfl ?_
  refine m_pf so55 rfl hw1 hm1 rfl rfl (by omega) (fun hc2 hw2 hm2 => ?_)
  refine f_s [fi (0)] rfl rfl ?_
  exact f_ret1 rfl ⟨rfl, hw2, hm2⟩)
theorem t26_end {ln : Int} {m : Nat → Nat → Int} {p a b f : Int} (h14 : m 55 14 = p) (p1 : 0 ≤ p) (p2 : p ≤ 100) (h13 : m 55 13 = ln) (ln1 : 0 ≤ ln) (ln2 : ln ≤ 40) (ra : 48 ≤ a ∧ a ≤ 65535) (rb : 0 ≤ b ∧ b ≤ 65535) (rf : 0 ≤ f ∧ f ≤ 65535) (h15 : m 55 15 = -9) (hp : ln ≤ p) : h_M 26 [.ref 55, fi (a), fi (b), fi (f)] m (some (fi (0))) (up m 55 15 p) := h_M_of (R := ev_r26) rfl (fun hc hw hm => by
  have hL : f_L (lv_args 0 [.ref 55, fi (a), fi (b), fi (f)]) [(0, .ref 55), (1, fi (a)), (2, fi (b)), (3, fi (f))] := f_L_of rfl
  generalize lv_args 0 [.ref 55, fi (a), fi (b), fi (f)] = L at hL
  show x_W none (1, 0, 5, 3, 11, 1, 25, 0, 0, ev_t26) 0 L [] hc 0 0 _
  refine f_aln 0 rfl hL rfl ?_
  refine m_gfi so55 (-9) rfl hw hm rfl h15 ?_
  refine f_bipush (n := -9) rfl (by decide) ?_
  refine f_ic rfl (by decide) (by decide) (fun c_9 => absurd (show ¬ (-9 : Int) = (-9 : Int) from c_9) (by decide)) (fun _ => ?_)
  refine f_aln 0 rfl hL rfl ?_
  refine m_gfi so55 (p) rfl hw hm rfl h14 ?_
  refine f_aln 0 rfl hL rfl ?_
  refine m_gfi so55 (ln) rfl hw hm rfl h13 ?_
  refine f_ic rfl (by omega) (by omega) (fun _ => ?_) (fun c_9 => absurd (show (ln : Int) ≤ (p : Int) from (by omega)) c_9)
  refine f_bipush (n := -9) rfl (by decide) ?_
  refine f_ist [(4, fi (-9)), (0, .ref 55), (1, fi (a)), (2, fi (b)), (3, fi (f))] rfl (by decide) hL rfl (fun L1 hL1 => ?_)
  refine f_il 0 rfl hL1 rfl ?_
  refine f_i2l rfl (by omega) ?_
  refine f_iln 2 rfl hL1 rfl ?_
  refine f_i2l rfl (by omega) ?_
  refine f_iln 3 rfl hL1 rfl ?_
  refine f_i2l rfl (by omega) ?_
  refine m_k1 (hM15 (-9) a b (by omega) (by omega) (by omega)) hw hm rfl rfl rfl rfl rfl (fun hc1 hw1 hm1 => ?_)
  refine f_if rfl (by split <;> omega) (fun c_9 => absurd (show ¬ (if a ≤ -9 ∧ -9 ≤ b then 1 else 0 : Int) = (0 : Int) from c_9) (by rw [if_neg (by omega)]; exact fun z => z rfl)) (fun _ => ?_)
  refine f_aln 1 rfl hL1 rfl ?_
  refine f_aln 1 rfl hL1 rfl ?_
  refine m_gfi so55 (-9) rfl hw1 hm1 rfl h15 ?_
  refine f_bipush (n := -9) rfl (by decide) ?_
  refine f_ic rfl (by decide) (by decide) (fun c_9 => absurd (show ¬ (-9 : Int) = (-9 : Int) from c_9) (by decide)) (fun _ => ?_)
  refine f_aln 1 rfl hL1 rfl ?_
  refine m_gfi so55 (p) rfl hw1 hm1 rfl h14 ?_
  refine f_goto rfl ?_
  refine m_pf so55 rfl hw1 hm1 rfl rfl (by omega) (fun hc2 hw2 hm2 => ?_)
  refine f_s [fi (0)] rfl rfl ?_
  exact f_ret1 rfl ⟨rfl, hw2, hm2⟩)
theorem t26_skip {ln : Int} {m : Nat → Nat → Int} {p a b f : Int} (h14 : m 55 14 = p) (p1 : 0 ≤ p) (p2 : p ≤ 100) (h13 : m 55 13 = ln) (ln1 : 0 ≤ ln) (ln2 : ln ≤ 40) (ra : 48 ≤ a ∧ a ≤ 65535) (rb : 0 ≤ b ∧ b ≤ 65535) (rf : 0 ≤ f ∧ f ≤ 65535) {g : Int} (h15 : m 55 15 = g) (hg : ¬ g = -9) (rg : 0 ≤ g ∧ g ≤ 100) : h_M 26 [.ref 55, fi (a), fi (b), fi (f)] m (some (fi (0))) (up m 55 15 g) := h_M_of (R := ev_r26) rfl (fun hc hw hm => by
  have hL : f_L (lv_args 0 [.ref 55, fi (a), fi (b), fi (f)]) [(0, .ref 55), (1, fi (a)), (2, fi (b)), (3, fi (f))] := f_L_of rfl
  generalize lv_args 0 [.ref 55, fi (a), fi (b), fi (f)] = L at hL
  show x_W none (1, 0, 5, 3, 11, 1, 25, 0, 0, ev_t26) 0 L [] hc 0 0 _
  refine f_aln 0 rfl hL rfl ?_
  refine m_gfi so55 (g) rfl hw hm rfl h15 ?_
  refine f_bipush (n := -9) rfl (by decide) ?_
  refine f_ic rfl (by omega) (by omega) (fun _ => ?_) (fun c_9 => absurd (show ¬ (g : Int) = (-9 : Int) from hg) c_9)
  refine f_bipush (n := -9) rfl (by decide) ?_
  refine f_ist [(4, fi (-9)), (0, .ref 55), (1, fi (a)), (2, fi (b)), (3, fi (f))] rfl (by decide) hL rfl (fun L1 hL1 => ?_)
  refine f_il 0 rfl hL1 rfl ?_
  refine f_i2l rfl (by omega) ?_
  refine f_iln 2 rfl hL1 rfl ?_
  refine f_i2l rfl (by omega) ?_
  refine f_iln 3 rfl hL1 rfl ?_
  refine f_i2l rfl (by omega) ?_
  refine m_k1 (hM15 (-9) a b (by omega) (by omega) (by omega)) hw hm rfl rfl rfl rfl rfl (fun hc1 hw1 hm1 => ?_)
  refine f_if rfl (by split <;> omega) (fun c_9 => absurd (show ¬ (if a ≤ -9 ∧ -9 ≤ b then 1 else 0 : Int) = (0 : Int) from c_9) (by rw [if_neg (by omega)]; exact fun z => z rfl)) (fun _ => ?_)
  refine f_aln 1 rfl hL1 rfl ?_
  refine f_aln 1 rfl hL1 rfl ?_
  refine m_gfi so55 (g) rfl hw1 hm1 rfl h15 ?_
  refine f_bipush (n := -9) rfl (by decide) ?_
  refine f_ic rfl (by omega) (by omega) (fun _ => ?_) (fun c_9 => absurd (show ¬ (g : Int) = (-9 : Int) from hg) c_9)
  refine f_aln 1 rfl hL1 rfl ?_
  refine m_gfi so55 (g) rfl hw1 hm1 rfl h15 ?_
  refine m_pf so55 rfl hw1 hm1 rfl rfl (by omega) (fun hc2 hw2 hm2 => ?_)
  refine f_s [fi (0)] rfl rfl ?_
  exact f_ret1 rfl ⟨rfl, hw2, hm2⟩)
set_option maxHeartbeats 8000000 in
theorem t27_loop {ln : Int} {t : Int → Int} : ∀ (n : Nat) (p : Int) (ns : pNs) (ps : pPs) (m : Nat → Nat → Int) (hc : ev_H) (L : ev_L), y_in yGw hc → gi hc = m → m 55 14 = p → m 55 15 = -9 → tM m ln t → pOK m ns ps → 1 ≤ p → p ≤ 44 → (ln - p).toNat ≤ n → ns.length ≤ 4 → ps.length ≤ 5 → f_L L [(0, .ref 55)] → x_W none (1, 0, 2, 0, 11, 2, 49, 0, 0, ev_t27) 46 L [] hc 0 0 (fun r h' => y_in yGw h' ∧ r = some (fi (pr ln t n p ns ps).1) ∧ ((pr ln t n p ns ps).1 = -9 → pOK (gi h') (pr ln t n p ns ps).2.1 (pr ln t n p ns ps).2.2)) := by
  intro n
  induction n with
  | zero =>
    intro p ns ps m hc L hw hm h14 h15 hM hO p1 p2 hn l1 l2 hL
    have hl := hM.2.1
    refine f_aln 0 rfl hL rfl ?_
    refine m_gfi so55 (-9) rfl hw hm rfl h15 ?_
    refine f_bipush (n := -9) rfl (by decide) ?_
    refine f_ic rfl (by decide) (by decide) (fun c_9 => absurd (show ¬ (-9 : Int) = (-9 : Int) from c_9) (by decide)) (fun _ => ?_)
    refine f_aln 0 rfl hL rfl ?_
    refine m_gfi so55 (p) rfl hw hm rfl h14 ?_
    refine f_aln 0 rfl hL rfl ?_
    refine m_gfi so55 (ln) rfl hw hm rfl hM.1 ?_
    refine f_ic rfl (by omega) (by omega) (fun _ => ?_) (fun c_9 => absurd (show (ln : Int) ≤ (p : Int) from (by omega)) c_9)
    refine f_aln 0 rfl hL rfl ?_
    refine m_gfi so55 (-9) rfl hw hm rfl h15 ?_
    exact f_ret1 rfl ⟨hw, rfl, fun _ => by rw [hm]; exact hO⟩
  | succ n ih =>
    intro p ns ps m hc L hw hm h14 h15 hM hO p1 p2 hn l1 l2 hL
    have hl := hM.2.1
    refine f_aln 0 rfl hL rfl ?_
    refine m_gfi so55 (-9) rfl hw hm rfl h15 ?_
    refine f_bipush (n := -9) rfl (by decide) ?_
    refine f_ic rfl (by decide) (by decide) (fun c_9 => absurd (show ¬ (-9 : Int) = (-9 : Int) from c_9) (by decide)) (fun _ => ?_)
    refine f_aln 0 rfl hL rfl ?_
    refine m_gfi so55 (p) rfl hw hm rfl h14 ?_
    refine f_aln 0 rfl hL rfl ?_
    refine m_gfi so55 (ln) rfl hw hm rfl hM.1 ?_
    refine f_ic rfl (by omega) (by omega) (fun c0 => ?_) (fun c0 => ?_)
    · have c0 : ln ≤ p := c0
      refine f_aln 0 rfl hL rfl ?_
      refine m_gfi so55 (-9) rfl hw hm rfl h15 ?_
      have e : pr ln t (n + 1) p ns ps = (-9, ns, ps) := by rw [pr_s, if_pos c0]
      rw [e]
      exact f_ret1 rfl ⟨hw, rfl, fun _ => by rw [hm]; exact hO⟩
    · have c0 : ¬ ln ≤ p := c0
      by_cases hN : t p = 78
      · by_cases h4 : 4 ≤ ns.length
        · skip
          have ht := hM.2.2.2.1 p
          refine f_aln 0 rfl hL rfl ?_
          refine m_gfr so55 rfl hw rfl (by decide) ?_
          refine f_aln 0 rfl hL rfl ?_
          refine m_gfi so55 (p) rfl hw hm rfl h14 ?_
          refine m_ia sa64 (t p) rfl hw hm (by omega) (by omega) (by decide) (hM.2.2.1 p (by omega) (by omega)) ?_
          refine f_bipush (n := 78) rfl (by decide) ?_
          refine f_ic rfl (by omega) (by omega) (fun c_9 => absurd (show ¬ (t p : Int) = (78 : Int) from c_9) (fun z => z hN)) (fun _ => ?_)
          refine f_aln 0 rfl hL rfl ?_
          refine m_gfi so55 ((ns.length : Int)) rfl hw hm rfl hO.1 ?_
          refine f_s [fi (4), fi ((ns.length : Int))] rfl rfl ?_
          refine f_ic rfl (by omega) (by omega) (fun _ => ?_) (fun c_9 => absurd (show (4 : Int) ≤ ((ns.length : Int) : Int) from (by omega)) c_9)
          refine f_aln 0 rfl hL rfl ?_
          refine m_gfr so55 rfl hw rfl (by decide) ?_
          refine f_aln 0 rfl hL rfl ?_
          refine m_gfi so55 (p) rfl hw hm rfl h14 ?_
          refine m_ia sa64 (t p) rfl hw hm (by omega) (by omega) (by decide) (hM.2.2.1 p (by omega) (by omega)) ?_
          refine f_bipush (n := 80) rfl (by decide) ?_
          refine f_ic rfl (by omega) (by omega) (fun _ => ?_) (fun c_9 => absurd (show ¬ (t p : Int) = (80 : Int) from (by omega)) c_9)
          refine f_aln 0 rfl hL rfl ?_
          refine f_aln 0 rfl hL rfl ?_
          refine m_gfi so55 (p) rfl hw hm rfl h14 ?_
          refine m_pf so55 rfl hw hm rfl rfl (by omega) (fun hc1 hw1 hm1 => ?_)
          refine f_goto rfl ?_
          refine f_aln 0 rfl hL rfl ?_
          refine m_gfi so55 (p) rfl hw1 hm1 rfl rfl ?_
          refine f_bipush (n := -9) rfl (by decide) ?_
          refine f_ic rfl (by omega) (by omega) (fun _ => ?_) (fun c_9 => absurd (show ¬ (p : Int) = (-9 : Int) from (by omega)) c_9)
          refine f_aln 0 rfl hL rfl ?_
          refine m_gfi so55 (p) rfl hw1 hm1 rfl rfl ?_
          have e : pr ln t (n + 1) p ns ps = (p, ns, ps) := by rw [pr_s, if_neg (by omega), if_pos hN, if_pos (by omega)]
          rw [e]
          exact f_ret1 rfl ⟨hw1, by rfl, fun z => absurd z (by show ¬ p = -9; omega)⟩
        · by_cases c1 : ln ≤ p + 1
          · have i1 : isW ln t (p + 1) 48 51 = false := decide_eq_false (by omega)
            have i2 : isW ln t (p + 2) 49 57 = false := decide_eq_false (by omega)
            have eF : nF ln t p = p + 1 := by unfold nF; rw [i1, i2, if_neg (by decide), if_neg (by decide), if_pos (by omega)]; omega
            have hFn : ¬ nF ln t p = -9 := by omega
            have hFv : (if nF ln t p = -9 then pr ln t n (p + 3) (ns ++ [(t (p + 1) - 48, t (p + 2) - 48)]) ps else (nF ln t p, ns, ps)) = (p + 1, ns, ps) := by rw [if_neg hFn, eF]
            have ht := hM.2.2.2.1 p
            refine f_aln 0 rfl hL rfl ?_
            refine m_gfr so55 rfl hw rfl (by decide) ?_
            refine f_aln 0 rfl hL rfl ?_
            refine m_gfi so55 (p) rfl hw hm rfl h14 ?_
            refine m_ia sa64 (t p) rfl hw hm (by omega) (by omega) (by decide) (hM.2.2.1 p (by omega) (by omega)) ?_
            refine f_bipush (n := 78) rfl (by decide) ?_
            refine f_ic rfl (by omega) (by omega) (fun c_9 => absurd (show ¬ (t p : Int) = (78 : Int) from c_9) (fun z => z hN)) (fun _ => ?_)
            refine f_aln 0 rfl hL rfl ?_
            refine m_gfi so55 ((ns.length : Int)) rfl hw hm rfl hO.1 ?_
            refine f_s [fi (4), fi ((ns.length : Int))] rfl rfl ?_
            refine f_ic rfl (by omega) (by omega) (fun c_9 => absurd (show (4 : Int) ≤ ((ns.length : Int) : Int) from c_9) (by omega)) (fun _ => ?_)
            refine f_aln 0 rfl hL rfl ?_
            refine f_s [.ref 55, .ref 55] rfl rfl ?_
            refine m_gfi so55 (p) rfl hw hm rfl h14 ?_
            refine f_s [fi (1), fi (p), .ref 55] rfl rfl ?_
            refine f_iadd rfl ?_
            refine m_pf so55 rfl hw hm rfl rfl (by omega) (fun hc1 hw1 hm1 => ?_)
            refine f_aln 0 rfl hL rfl ?_
            refine m_gfr so55 rfl hw1 rfl (by decide) ?_
            refine f_s [fi (2), .ref 62] rfl rfl ?_
            refine f_aln 0 rfl hL rfl ?_
            refine m_gfi so55 ((ns.length : Int)) rfl hw1 hm1 rfl hO.1 ?_
            refine f_imul rfl ?_
            refine f_aln 0 rfl hL rfl ?_
            refine f_bipush (n := 48) rfl (by decide) ?_
            refine f_bipush (n := 51) rfl (by decide) ?_
            refine f_bipush (n := 48) rfl (by decide) ?_
            refine m_k1 (t26_end (m := (up m 55 14 (p + 1))) (a := 48) (b := 51) (f := 48) (p := p + 1) (ln := ln) rfl (by omega) (by omega) hM.1 (by omega) (by omega) (by show 48 ≤ 48 ∧ 48 ≤ 65535; omega) (by decide) (by decide) h15 (by omega)) hw1 hm1 rfl rfl rfl (m_ar so55 hw1 rfl) rfl (fun hc2 hw2 hm2 => ?_)
            refine m_ias sa62 rfl hw2 hm2 (by omega) (by omega) (by decide) (by decide) (fun hc3 hw3 hm3 => ?_)
            refine f_aln 0 rfl hL rfl ?_
            refine m_gfr so55 rfl hw3 rfl (by decide) ?_
            refine f_s [fi (2), .ref 62] rfl rfl ?_
            refine f_aln 0 rfl hL rfl ?_
            refine m_gfi so55 ((ns.length : Int)) rfl hw3 hm3 rfl hO.1 ?_
            refine f_imul rfl ?_
            refine f_s [fi (1), fi (2 * ((ns.length : Int))), .ref 62] rfl rfl ?_
            refine f_iadd rfl ?_
            refine f_aln 0 rfl hL rfl ?_
            refine f_bipush (n := 49) rfl (by decide) ?_
            refine f_bipush (n := 57) rfl (by decide) ?_
            refine f_bipush (n := 48) rfl (by decide) ?_
            refine m_k1 (t26_skip (m := (up (up (up m 55 14 (p + 1)) 55 15 (p + 1)) 62 (2 * ((ns.length : Int))).toNat (0))) (a := 49) (b := 57) (f := 48) (p := p + 1) (ln := ln) rfl (by omega) (by omega) hM.1 (by omega) (by omega) (by show 48 ≤ 49 ∧ 49 ≤ 65535; omega) (by decide) (by decide) (g := p + 1) rfl (by omega) (by omega)) hw3 hm3 rfl rfl rfl (m_ar so55 hw3 rfl) rfl (fun hc4 hw4 hm4 => ?_)
            refine m_ias sa62 rfl hw4 hm4 (by omega) (by omega) (by decide) (by decide) (fun hc5 hw5 hm5 => ?_)
            refine f_aln 0 rfl hL rfl ?_
            refine f_s [.ref 55, .ref 55] rfl rfl ?_
            refine m_gfi so55 ((ns.length : Int)) rfl hw5 hm5 rfl hO.1 ?_
            refine f_s [fi (1), fi ((ns.length : Int)), .ref 55] rfl rfl ?_
            refine f_iadd rfl ?_
            refine m_pf so55 rfl hw5 hm5 rfl rfl (by omega) (fun hc6 hw6 hm6 => ?_)
            refine f_goto rfl ?_
            refine f_aln 0 rfl hL rfl ?_
            refine m_gfi so55 (p + 1) rfl hw6 hm6 rfl rfl ?_
            refine f_bipush (n := -9) rfl (by decide) ?_
            refine f_ic rfl (by omega) (by omega) (fun _ => ?_) (fun c_9 => absurd (show ¬ (p + 1 : Int) = (-9 : Int) from (by omega)) c_9)
            refine f_aln 0 rfl hL rfl ?_
            refine m_gfi so55 (p + 1) rfl hw6 hm6 rfl rfl ?_
            have e : pr ln t (n + 1) p ns ps = (p + 1, ns, ps) := by rw [pr_s, if_neg (by omega), if_pos hN, if_neg (by omega), hFv]
            rw [e]
            exact f_ret1 rfl ⟨hw6, by rfl, fun z => absurd z (by show ¬ p + 1 = -9; omega)⟩
          · have x1 : m 64 (p + 1).toNat = t (p + 1) := by rw [show p + 1 = p + 1 by omega]; exact hM.2.2.1 (p + 1) (by omega) (by omega)
            have y1 := hM.2.2.2.1 (p + 1)
            by_cases b1 : 48 ≤ t (p + 1) ∧ t (p + 1) ≤ 51
            · have i1 : isW ln t (p + 1) 48 51 = false := decide_eq_false (by omega)
              by_cases c2 : ln ≤ p + 2
              · have i2 : isW ln t (p + 2) 49 57 = false := decide_eq_false (by omega)
                have eF : nF ln t p = p + 1 + 1 := by unfold nF; rw [i1, i2, if_neg (by decide), if_neg (by decide), if_pos (by omega)]; omega
                have hFn : ¬ nF ln t p = -9 := by omega
                have hFv : (if nF ln t p = -9 then pr ln t n (p + 3) (ns ++ [(t (p + 1) - 48, t (p + 2) - 48)]) ps else (nF ln t p, ns, ps)) = (p + 1 + 1, ns, ps) := by rw [if_neg hFn, eF]
                have ht := hM.2.2.2.1 p
                refine f_aln 0 rfl hL rfl ?_
                refine m_gfr so55 rfl hw rfl (by decide) ?_
                refine f_aln 0 rfl hL rfl ?_
                refine m_gfi so55 (p) rfl hw hm rfl h14 ?_
                refine m_ia sa64 (t p) rfl hw hm (by omega) (by omega) (by decide) (hM.2.2.1 p (by omega) (by omega)) ?_
                refine f_bipush (n := 78) rfl (by decide) ?_
                refine f_ic rfl (by omega) (by omega) (fun c_9 => absurd (show ¬ (t p : Int) = (78 : Int) from c_9) (fun z => z hN)) (fun _ => ?_)
                refine f_aln 0 rfl hL rfl ?_
                refine m_gfi so55 ((ns.length : Int)) rfl hw hm rfl hO.1 ?_
                refine f_s [fi (4), fi ((ns.length : Int))] rfl rfl ?_
                refine f_ic rfl (by omega) (by omega) (fun c_9 => absurd (show (4 : Int) ≤ ((ns.length : Int) : Int) from c_9) (by omega)) (fun _ => ?_)
                refine f_aln 0 rfl hL rfl ?_
                refine f_s [.ref 55, .ref 55] rfl rfl ?_
                refine m_gfi so55 (p) rfl hw hm rfl h14 ?_
                refine f_s [fi (1), fi (p), .ref 55] rfl rfl ?_
                refine f_iadd rfl ?_
                refine m_pf so55 rfl hw hm rfl rfl (by omega) (fun hc1 hw1 hm1 => ?_)
                refine f_aln 0 rfl hL rfl ?_
                refine m_gfr so55 rfl hw1 rfl (by decide) ?_
                refine f_s [fi (2), .ref 62] rfl rfl ?_
                refine f_aln 0 rfl hL rfl ?_
                refine m_gfi so55 ((ns.length : Int)) rfl hw1 hm1 rfl hO.1 ?_
                refine f_imul rfl ?_
                refine f_aln 0 rfl hL rfl ?_
                refine f_bipush (n := 48) rfl (by decide) ?_
                refine f_bipush (n := 51) rfl (by decide) ?_
                refine f_bipush (n := 48) rfl (by decide) ?_
                refine m_k1 (t26_ok (m := (up m 55 14 (p + 1))) (a := 48) (b := 51) (f := 48) (p := p + 1) (ln := ln) rfl (by omega) (by omega) hM.1 (by omega) (by omega) (by show 48 ≤ 48 ∧ 48 ≤ 65535; omega) (by decide) (by decide) h15 (by omega) (v := t (p + 1)) (x1) (by omega) (by omega)) hw1 hm1 rfl rfl rfl (m_ar so55 hw1 rfl) rfl (fun hc2 hw2 hm2 => ?_)
                refine m_ias sa62 rfl hw2 hm2 (by omega) (by omega) (by decide) (by omega) (fun hc3 hw3 hm3 => ?_)
                refine f_aln 0 rfl hL rfl ?_
                refine m_gfr so55 rfl hw3 rfl (by decide) ?_
                refine f_s [fi (2), .ref 62] rfl rfl ?_
                refine f_aln 0 rfl hL rfl ?_
                refine m_gfi so55 ((ns.length : Int)) rfl hw3 hm3 rfl hO.1 ?_
                refine f_imul rfl ?_
                refine f_s [fi (1), fi (2 * ((ns.length : Int))), .ref 62] rfl rfl ?_
                refine f_iadd rfl ?_
                refine f_aln 0 rfl hL rfl ?_
                refine f_bipush (n := 49) rfl (by decide) ?_
                refine f_bipush (n := 57) rfl (by decide) ?_
                refine f_bipush (n := 48) rfl (by decide) ?_
                refine m_k1 (t26_end (m := (up (up (up m 55 14 (p + 1)) 55 14 (p + 1 + 1)) 62 (2 * ((ns.length : Int))).toNat (t (p + 1) - 48))) (a := 49) (b := 57) (f := 48) (p := p + 1 + 1) (ln := ln) rfl (by omega) (by omega) hM.1 (by omega) (by omega) (by show 48 ≤ 49 ∧ 49 ≤ 65535; omega) (by decide) (by decide) h15 (by omega)) hw3 hm3 rfl rfl rfl (m_ar so55 hw3 rfl) rfl (fun hc4 hw4 hm4 => ?_)
                refine m_ias sa62 rfl hw4 hm4 (by omega) (by omega) (by decide) (by decide) (fun hc5 hw5 hm5 => ?_)
                refine f_aln 0 rfl hL rfl ?_
                refine f_s [.ref 55, .ref 55] rfl rfl ?_
                refine m_gfi so55 ((ns.length : Int)) rfl hw5 hm5 rfl hO.1 ?_
                refine f_s [fi (1), fi ((ns.length : Int)), .ref 55] rfl rfl ?_
                refine f_iadd rfl ?_
                refine m_pf so55 rfl hw5 hm5 rfl rfl (by omega) (fun hc6 hw6 hm6 => ?_)
                refine f_goto rfl ?_
                refine f_aln 0 rfl hL rfl ?_
                refine m_gfi so55 (p + 1 + 1) rfl hw6 hm6 rfl rfl ?_
                refine f_bipush (n := -9) rfl (by decide) ?_
                refine f_ic rfl (by omega) (by omega) (fun _ => ?_) (fun c_9 => absurd (show ¬ (p + 1 + 1 : Int) = (-9 : Int) from (by omega)) c_9)
                refine f_aln 0 rfl hL rfl ?_
                refine m_gfi so55 (p + 1 + 1) rfl hw6 hm6 rfl rfl ?_
                have e : pr ln t (n + 1) p ns ps = (p + 1 + 1, ns, ps) := by rw [pr_s, if_neg (by omega), if_pos hN, if_neg (by omega), hFv]
                rw [e]
                exact f_ret1 rfl ⟨hw6, by rfl, fun z => absurd z (by show ¬ p + 1 + 1 = -9; omega)⟩
              · have x2 : m 64 (p + 1 + 1).toNat = t (p + 2) := by rw [show p + 1 + 1 = p + 2 by omega]; exact hM.2.2.1 (p + 2) (by omega) (by omega)
                have y2 := hM.2.2.2.1 (p + 2)
                by_cases b2 : 49 ≤ t (p + 2) ∧ t (p + 2) ≤ 57
                · have i2 : isW ln t (p + 2) 49 57 = false := decide_eq_false (by omega)
                  have hFv : nF ln t p = -9 := by unfold nF; rw [i1, i2, if_neg (by decide), if_neg (by decide), if_neg (by omega)]
                  have ht := hM.2.2.2.1 p
                  refine f_aln 0 rfl hL rfl ?_
                  refine m_gfr so55 rfl hw rfl (by decide) ?_
                  refine f_aln 0 rfl hL rfl ?_
                  refine m_gfi so55 (p) rfl hw hm rfl h14 ?_
                  refine m_ia sa64 (t p) rfl hw hm (by omega) (by omega) (by decide) (hM.2.2.1 p (by omega) (by omega)) ?_
                  refine f_bipush (n := 78) rfl (by decide) ?_
                  refine f_ic rfl (by omega) (by omega) (fun c_9 => absurd (show ¬ (t p : Int) = (78 : Int) from c_9) (fun z => z hN)) (fun _ => ?_)
                  refine f_aln 0 rfl hL rfl ?_
                  refine m_gfi so55 ((ns.length : Int)) rfl hw hm rfl hO.1 ?_
                  refine f_s [fi (4), fi ((ns.length : Int))] rfl rfl ?_
                  refine f_ic rfl (by omega) (by omega) (fun c_9 => absurd (show (4 : Int) ≤ ((ns.length : Int) : Int) from c_9) (by omega)) (fun _ => ?_)
                  refine f_aln 0 rfl hL rfl ?_
                  refine f_s [.ref 55, .ref 55] rfl rfl ?_
                  refine m_gfi so55 (p) rfl hw hm rfl h14 ?_
                  refine f_s [fi (1), fi (p), .ref 55] rfl rfl ?_
                  refine f_iadd rfl ?_
                  refine m_pf so55 rfl hw hm rfl rfl (by omega) (fun hc1 hw1 hm1 => ?_)
                  refine f_aln 0 rfl hL rfl ?_
                  refine m_gfr so55 rfl hw1 rfl (by decide) ?_
                  refine f_s [fi (2), .ref 62] rfl rfl ?_
                  refine f_aln 0 rfl hL rfl ?_
                  refine m_gfi so55 ((ns.length : Int)) rfl hw1 hm1 rfl hO.1 ?_
                  refine f_imul rfl ?_
                  refine f_aln 0 rfl hL rfl ?_
                  refine f_bipush (n := 48) rfl (by decide) ?_
                  refine f_bipush (n := 51) rfl (by decide) ?_
                  refine f_bipush (n := 48) rfl (by decide) ?_
                  refine m_k1 (t26_ok (m := (up m 55 14 (p + 1))) (a := 48) (b := 51) (f := 48) (p := p + 1) (ln := ln) rfl (by omega) (by omega) hM.1 (by omega) (by omega) (by show 48 ≤ 48 ∧ 48 ≤ 65535; omega) (by decide) (by decide) h15 (by omega) (v := t (p + 1)) (x1) (by omega) (by omega)) hw1 hm1 rfl rfl rfl (m_ar so55 hw1 rfl) rfl (fun hc2 hw2 hm2 => ?_)
                  refine m_ias sa62 rfl hw2 hm2 (by omega) (by omega) (by decide) (by omega) (fun hc3 hw3 hm3 => ?_)
                  refine f_aln 0 rfl hL rfl ?_
                  refine m_gfr so55 rfl hw3 rfl (by decide) ?_
                  refine f_s [fi (2), .ref 62] rfl rfl ?_
                  refine f_aln 0 rfl hL rfl ?_
                  refine m_gfi so55 ((ns.length : Int)) rfl hw3 hm3 rfl hO.1 ?_
                  refine f_imul rfl ?_
                  refine f_s [fi (1), fi (2 * ((ns.length : Int))), .ref 62] rfl rfl ?_
                  refine f_iadd rfl ?_
                  refine f_aln 0 rfl hL rfl ?_
                  refine f_bipush (n := 49) rfl (by decide) ?_
                  refine f_bipush (n := 57) rfl (by decide) ?_
                  refine f_bipush (n := 48) rfl (by decide) ?_
                  refine m_k1 (t26_ok (m := (up (up (up m 55 14 (p + 1)) 55 14 (p + 1 + 1)) 62 (2 * ((ns.length : Int))).toNat (t (p + 1) - 48))) (a := 49) (b := 57) (f := 48) (p := p + 1 + 1) (ln := ln) rfl (by omega) (by omega) hM.1 (by omega) (by omega) (by show 48 ≤ 49 ∧ 49 ≤ 65535; omega) (by decide) (by decide) h15 (by omega) (v := t (p + 2)) (x2) (by omega) (by omega)) hw3 hm3 rfl rfl rfl (m_ar so55 hw3 rfl) rfl (fun hc4 hw4 hm4 => ?_)
                  refine m_ias sa62 rfl hw4 hm4 (by omega) (by omega) (by decide) (by omega) (fun hc5 hw5 hm5 => ?_)
                  refine f_aln 0 rfl hL rfl ?_
                  refine f_s [.ref 55, .ref 55] rfl rfl ?_
                  refine m_gfi so55 ((ns.length : Int)) rfl hw5 hm5 rfl hO.1 ?_
                  refine f_s [fi (1), fi ((ns.length : Int)), .ref 55] rfl rfl ?_
                  refine f_iadd rfl ?_
                  refine m_pf so55 rfl hw5 hm5 rfl rfl (by omega) (fun hc6 hw6 hm6 => ?_)
                  refine f_goto rfl ?_
                  have hO2 : pOK (up (up (up (up (up (up m 55 14 (p + 1)) 55 14 (p + 1 + 1)) 62 (2 * ((ns.length : Int))).toNat (t (p + 1) - 48)) 55 14 (p + 1 + 1 + 1)) 62 ((2 * ((ns.length : Int))) + 1).toNat (t (p + 2) - 48)) 55 10 (((ns.length : Int)) + 1)) (ns ++ [(t (p + 1) - 48, t (p + 2) - 48)]) (ps) := pOK_n hO rfl rfl (fun _ => rfl) (fun i => by
                    have e1 : (2 * (ns.length : Int)).toNat = 2 * ns.length := by omega
                    have e2 : ((2 * (ns.length : Int)) + 1).toNat = 2 * ns.length + 1 := by omega
                    simp [up, e1, e2])
                  have e14 : (up (up (up (up (up (up m 55 14 (p + 1)) 55 14 (p + 1 + 1)) 62 (2 * ((ns.length : Int))).toNat (t (p + 1) - 48)) 55 14 (p + 1 + 1 + 1)) 62 ((2 * ((ns.length : Int))) + 1).toNat (t (p + 2) - 48)) 55 10 (((ns.length : Int)) + 1)) 55 14 = p + 3 := by show p + 1 + 1 + 1 = _; omega
                  have := ih (p + 3) (ns ++ [(t (p + 1) - 48, t (p + 2) - 48)]) (ps) (up (up (up (up (up (up m 55 14 (p + 1)) 55 14 (p + 1 + 1)) 62 (2 * ((ns.length : Int))).toNat (t (p + 1) - 48)) 55 14 (p + 1 + 1 + 1)) 62 ((2 * ((ns.length : Int))) + 1).toNat (t (p + 2) - 48)) 55 10 (((ns.length : Int)) + 1)) hc6 _ hw6 hm6 e14 h15 ⟨hM.1, hM.2.1, hM.2.2.1, hM.2.2.2⟩ hO2 (by omega) (by omega) (by omega) (by rw [List.length_append]; show ns.length + 1 ≤ 4; omega) (by omega) (hL.sel [0] rfl)
                  rw [pr_s, if_neg (by omega), if_pos hN, if_neg (by omega), if_pos hFv]
                  exact this
                · have i2 : isW ln t (p + 2) 49 57 = true := decide_eq_true (by omega)
                  have eF : nF ln t p = p + 1 + 1 := by unfold nF; rw [i1, i2, if_neg (by decide), if_pos rfl]; omega
                  have hFn : ¬ nF ln t p = -9 := by omega
                  have hFv : (if nF ln t p = -9 then pr ln t n (p + 3) (ns ++ [(t (p + 1) - 48, t (p + 2) - 48)]) ps else (nF ln t p, ns, ps)) = (p + 1 + 1, ns, ps) := by rw [if_neg hFn, eF]
                  have ht := hM.2.2.2.1 p
                  refine f_aln 0 rfl hL rfl ?_
                  refine m_gfr so55 rfl hw rfl (by decide) ?_
                  refine f_aln 0 rfl hL rfl ?_
                  refine m_gfi so55 (p) rfl hw hm rfl h14 ?_
                  refine m_ia sa64 (t p) rfl hw hm (by omega) (by omega) (by decide) (hM.2.2.1 p (by omega) (by omega)) ?_
                  refine f_bipush (n := 78) rfl (by decide) ?_
                  refine f_ic rfl (by omega) (by omega) (fun c_9 => absurd (show ¬ (t p : Int) = (78 : Int) from c_9) (fun z => z hN)) (fun _ => ?_)
                  refine f_aln 0 rfl hL rfl ?_
                  refine m_gfi so55 ((ns.length : Int)) rfl hw hm rfl hO.1 ?_
                  refine f_s [fi (4), fi ((ns.length : Int))] rfl rfl ?_
                  refine f_ic rfl (by omega) (by omega) (fun c_9 => absurd (show (4 : Int) ≤ ((ns.length : Int) : Int) from c_9) (by omega)) (fun _ => ?_)
                  refine f_aln 0 rfl hL rfl ?_
                  refine f_s [.ref 55, .ref 55] rfl rfl ?_
                  refine m_gfi so55 (p) rfl hw hm rfl h14 ?_
                  refine f_s [fi (1), fi (p), .ref 55] rfl rfl ?_
                  refine f_iadd rfl ?_
                  refine m_pf so55 rfl hw hm rfl rfl (by omega) (fun hc1 hw1 hm1 => ?_)
                  refine f_aln 0 rfl hL rfl ?_
                  refine m_gfr so55 rfl hw1 rfl (by decide) ?_
                  refine f_s [fi (2), .ref 62] rfl rfl ?_
                  refine f_aln 0 rfl hL rfl ?_
                  refine m_gfi so55 ((ns.length : Int)) rfl hw1 hm1 rfl hO.1 ?_
                  refine f_imul rfl ?_
                  refine f_aln 0 rfl hL rfl ?_
                  refine f_bipush (n := 48) rfl (by decide) ?_
                  refine f_bipush (n := 51) rfl (by decide) ?_
                  refine f_bipush (n := 48) rfl (by decide) ?_
                  refine m_k1 (t26_ok (m := (up m 55 14 (p + 1))) (a := 48) (b := 51) (f := 48) (p := p + 1) (ln := ln) rfl (by omega) (by omega) hM.1 (by omega) (by omega) (by show 48 ≤ 48 ∧ 48 ≤ 65535; omega) (by decide) (by decide) h15 (by omega) (v := t (p + 1)) (x1) (by omega) (by omega)) hw1 hm1 rfl rfl rfl (m_ar so55 hw1 rfl) rfl (fun hc2 hw2 hm2 => ?_)
                  refine m_ias sa62 rfl hw2 hm2 (by omega) (by omega) (by decide) (by omega) (fun hc3 hw3 hm3 => ?_)
                  refine f_aln 0 rfl hL rfl ?_
                  refine m_gfr so55 rfl hw3 rfl (by decide) ?_
                  refine f_s [fi (2), .ref 62] rfl rfl ?_
                  refine f_aln 0 rfl hL rfl ?_
                  refine m_gfi so55 ((ns.length : Int)) rfl hw3 hm3 rfl hO.1 ?_
                  refine f_imul rfl ?_
                  refine f_s [fi (1), fi (2 * ((ns.length : Int))), .ref 62] rfl rfl ?_
                  refine f_iadd rfl ?_
                  refine f_aln 0 rfl hL rfl ?_
                  refine f_bipush (n := 49) rfl (by decide) ?_
                  refine f_bipush (n := 57) rfl (by decide) ?_
                  refine f_bipush (n := 48) rfl (by decide) ?_
                  refine m_k1 (t26_bad (m := (up (up (up m 55 14 (p + 1)) 55 14 (p + 1 + 1)) 62 (2 * ((ns.length : Int))).toNat (t (p + 1) - 48))) (a := 49) (b := 57) (f := 48) (p := p + 1 + 1) (ln := ln) rfl (by omega) (by omega) hM.1 (by omega) (by omega) (by show 48 ≤ 49 ∧ 49 ≤ 65535; omega) (by decide) (by decide) h15 (by omega) (v := t (p + 2)) (x2) (by omega) (by omega)) hw3 hm3 rfl rfl rfl (m_ar so55 hw3 rfl) rfl (fun hc4 hw4 hm4 => ?_)
                  refine m_ias sa62 rfl hw4 hm4 (by omega) (by omega) (by decide) (by decide) (fun hc5 hw5 hm5 => ?_)
                  refine f_aln 0 rfl hL rfl ?_
                  refine f_s [.ref 55, .ref 55] rfl rfl ?_
                  refine m_gfi so55 ((ns.length : Int)) rfl hw5 hm5 rfl hO.1 ?_
                  refine f_s [fi (1), fi ((ns.length : Int)), .ref 55] rfl rfl ?_
                  refine f_iadd rfl ?_
                  refine m_pf so55 rfl hw5 hm5 rfl rfl (by omega) (fun hc6 hw6 hm6 => ?_)
                  refine f_goto rfl ?_
                  refine f_aln 0 rfl hL rfl ?_
                  refine m_gfi so55 (p + 1 + 1) rfl hw6 hm6 rfl rfl ?_
                  refine f_bipush (n := -9) rfl (by decide) ?_
                  refine f_ic rfl (by omega) (by omega) (fun _ => ?_) (fun c_9 => absurd (show ¬ (p + 1 + 1 : Int) = (-9 : Int) from (by omega)) c_9)
                  refine f_aln 0 rfl hL rfl ?_
                  refine m_gfi so55 (p + 1 + 1) rfl hw6 hm6 rfl rfl ?_
                  have e : pr ln t (n + 1) p ns ps = (p + 1 + 1, ns, ps) := by rw [pr_s, if_neg (by omega), if_pos hN, if_neg (by omega), hFv]
                  rw [e]
                  exact f_ret1 rfl ⟨hw6, by rfl, fun z => absurd z (by show ¬ p + 1 + 1 = -9; omega)⟩
            · have i1 : isW ln t (p + 1) 48 51 = true := decide_eq_true (by omega)
              have eF : nF ln t p = p + 1 := by unfold nF; rw [i1, if_pos rfl]
              have hFn : ¬ nF ln t p = -9 := by omega
              have hFv : (if nF ln t p = -9 then pr ln t n (p + 3) (ns ++ [(t (p + 1) - 48, t (p + 2) - 48)]) ps else (nF ln t p, ns, ps)) = (p + 1, ns, ps) := by rw [if_neg hFn, eF]
              have ht := hM.2.2.2.1 p
              refine f_aln 0 rfl hL rfl ?_
              refine m_gfr so55 rfl hw rfl (by decide) ?_
              refine f_aln 0 rfl hL rfl ?_
              refine m_gfi so55 (p) rfl hw hm rfl h14 ?_
              refine m_ia sa64 (t p) rfl hw hm (by omega) (by omega) (by decide) (hM.2.2.1 p (by omega) (by omega)) ?_
              refine f_bipush (n := 78) rfl (by decide) ?_
              refine f_ic rfl (by omega) (by omega) (fun c_9 => absurd (show ¬ (t p : Int) = (78 : Int) from c_9) (fun z => z hN)) (fun _ => ?_)
              refine f_aln 0 rfl hL rfl ?_
              refine m_gfi so55 ((ns.length : Int)) rfl hw hm rfl hO.1 ?_
              refine f_s [fi (4), fi ((ns.length : Int))] rfl rfl ?_
              refine f_ic rfl (by omega) (by omega) (fun c_9 => absurd (show (4 : Int) ≤ ((ns.length : Int) : Int) from c_9) (by omega)) (fun _ => ?_)
              refine f_aln 0 rfl hL rfl ?_
              refine f_s [.ref 55, .ref 55] rfl rfl ?_
              refine m_gfi so55 (p) rfl hw hm rfl h14 ?_
              refine f_s [fi (1), fi (p), .ref 55] rfl rfl ?_
              refine f_iadd rfl ?_
              refine m_pf so55 rfl hw hm rfl rfl (by omega) (fun hc1 hw1 hm1 => ?_)
              refine f_aln 0 rfl hL rfl ?_
              refine m_gfr so55 rfl hw1 rfl (by decide) ?_
              refine f_s [fi (2), .ref 62] rfl rfl ?_
              refine f_aln 0 rfl hL rfl ?_
              refine m_gfi so55 ((ns.length : Int)) rfl hw1 hm1 rfl hO.1 ?_
              refine f_imul rfl ?_
              refine f_aln 0 rfl hL rfl ?_
              refine f_bipush (n := 48) rfl (by decide) ?_
              refine f_bipush (n := 51) rfl (by decide) ?_
              refine f_bipush (n := 48) rfl (by decide) ?_
              refine m_k1 (t26_bad (m := (up m 55 14 (p + 1))) (a := 48) (b := 51) (f := 48) (p := p + 1) (ln := ln) rfl (by omega) (by omega) hM.1 (by omega) (by omega) (by show 48 ≤ 48 ∧ 48 ≤ 65535; omega) (by decide) (by decide) h15 (by omega) (v := t (p + 1)) (x1) (by omega) (by omega)) hw1 hm1 rfl rfl rfl (m_ar so55 hw1 rfl) rfl (fun hc2 hw2 hm2 => ?_)
              refine m_ias sa62 rfl hw2 hm2 (by omega) (by omega) (by decide) (by decide) (fun hc3 hw3 hm3 => ?_)
              refine f_aln 0 rfl hL rfl ?_
              refine m_gfr so55 rfl hw3 rfl (by decide) ?_
              refine f_s [fi (2), .ref 62] rfl rfl ?_
              refine f_aln 0 rfl hL rfl ?_
              refine m_gfi so55 ((ns.length : Int)) rfl hw3 hm3 rfl hO.1 ?_
              refine f_imul rfl ?_
              refine f_s [fi (1), fi (2 * ((ns.length : Int))), .ref 62] rfl rfl ?_
              refine f_iadd rfl ?_
              refine f_aln 0 rfl hL rfl ?_
              refine f_bipush (n := 49) rfl (by decide) ?_
              refine f_bipush (n := 57) rfl (by decide) ?_
              refine f_bipush (n := 48) rfl (by decide) ?_
              refine m_k1 (t26_skip (m := (up (up (up m 55 14 (p + 1)) 55 15 (p + 1)) 62 (2 * ((ns.length : Int))).toNat (0))) (a := 49) (b := 57) (f := 48) (p := p + 1) (ln := ln) rfl (by omega) (by omega) hM.1 (by omega) (by omega) (by show 48 ≤ 49 ∧ 49 ≤ 65535; omega) (by decide) (by decide) (g := p + 1) rfl (by omega) (by omega)) hw3 hm3 rfl rfl rfl (m_ar so55 hw3 rfl) rfl (fun hc4 hw4 hm4 => ?_)
              refine m_ias sa62 rfl hw4 hm4 (by omega) (by omega) (by decide) (by decide) (fun hc5 hw5 hm5 => ?_)
              refine f_aln 0 rfl hL rfl ?_
              refine f_s [.ref 55, .ref 55] rfl rfl ?_
              refine m_gfi so55 ((ns.length : Int)) rfl hw5 hm5 rfl hO.1 ?_
              refine f_s [fi (1), fi ((ns.length : Int)), .ref 55] rfl rfl ?_
              refine f_iadd rfl ?_
              refine m_pf so55 rfl hw5 hm5 rfl rfl (by omega) (fun hc6 hw6 hm6 => ?_)
              refine f_goto rfl ?_
              refine f_aln 0 rfl hL rfl ?_
              refine m_gfi so55 (p + 1) rfl hw6 hm6 rfl rfl ?_
              refine f_bipush (n := -9) rfl (by decide) ?_
              refine f_ic rfl (by omega) (by omega) (fun _ => ?_) (fun c_9 => absurd (show ¬ (p + 1 : Int) = (-9 : Int) from (by omega)) c_9)
              refine f_aln 0 rfl hL rfl ?_
              refine m_gfi so55 (p + 1) rfl hw6 hm6 rfl rfl ?_
              have e : pr ln t (n + 1) p ns ps = (p + 1, ns, ps) := by rw [pr_s, if_neg (by omega), if_pos hN, if_neg (by omega), hFv]
              rw [e]
              exact f_ret1 rfl ⟨hw6, by rfl, fun z => absurd z (by show ¬ p + 1 = -9; omega)⟩
      · by_cases hP : t p = 80
        · by_cases h5 : 5 ≤ ps.length
          · skip
            have ht := hM.2.2.2.1 p
            refine f_aln 0 rfl hL rfl ?_
            refine m_gfr so55 rfl hw rfl (by decide) ?_
            refine f_aln 0 rfl hL rfl ?_
            refine m_gfi so55 (p) rfl hw hm rfl h14 ?_
            refine m_ia sa64 (t p) rfl hw hm (by omega) (by omega) (by decide) (hM.2.2.1 p (by omega) (by omega)) ?_
            refine f_bipush (n := 78) rfl (by decide) ?_
            refine f_ic rfl (by omega) (by omega) (fun _ => ?_) (fun c_9 => absurd (show ¬ (t p : Int) = (78 : Int) from hN) c_9)
            refine f_aln 0 rfl hL rfl ?_
            refine m_gfr so55 rfl hw rfl (by decide) ?_
            refine f_aln 0 rfl hL rfl ?_
            refine m_gfi so55 (p) rfl hw hm rfl h14 ?_
            refine m_ia sa64 (t p) rfl hw hm (by omega) (by omega) (by decide) (hM.2.2.1 p (by omega) (by omega)) ?_
            refine f_bipush (n := 80) rfl (by decide) ?_
            refine f_ic rfl (by omega) (by omega) (fun c_9 => absurd (show ¬ (t p : Int) = (80 : Int) from c_9) (fun z => z hP)) (fun _ => ?_)
            refine f_aln 0 rfl hL rfl ?_
            refine m_gfi so55 ((ps.length : Int)) rfl hw hm rfl hO.2.1 ?_
            refine f_s [fi (5), fi ((ps.length : Int))] rfl rfl ?_
            refine f_ic rfl (by omega) (by omega) (fun _ => ?_) (fun c_9 => absurd (show (5 : Int) ≤ ((ps.length : Int) : Int) from (by omega)) c_9)
            refine f_aln 0 rfl hL rfl ?_
            refine f_aln 0 rfl hL rfl ?_
            refine m_gfi so55 (p) rfl hw hm rfl h14 ?_
            refine m_pf so55 rfl hw hm rfl rfl (by omega) (fun hc1 hw1 hm1 => ?_)
            refine f_goto rfl ?_
            refine f_aln 0 rfl hL rfl ?_
            refine m_gfi so55 (p) rfl hw1 hm1 rfl rfl ?_
            refine f_bipush (n := -9) rfl (by decide) ?_
            refine f_ic rfl (by omega) (by omega) (fun _ => ?_) (fun c_9 => absurd (show ¬ (p : Int) = (-9 : Int) from (by omega)) c_9)
            refine f_aln 0 rfl hL rfl ?_
            refine m_gfi so55 (p) rfl hw1 hm1 rfl rfl ?_
            have e : pr ln t (n + 1) p ns ps = (p, ns, ps) := by rw [pr_s, if_neg (by omega), if_neg hN, if_pos hP, if_pos (by omega)]
            rw [e]
            exact f_ret1 rfl ⟨hw1, by rfl, fun z => absurd z (by show ¬ p = -9; omega)⟩
          · by_cases c1 : ln ≤ p + 1
            · have i1 : isW ln t (p + 1) 48 57 = false := decide_eq_false (by omega)
              have i2 : isW ln t (p + 2) (t (p + 1)) 57 = false := decide_eq_false (by omega)
              have i3 : isW ln t (p + 3) 97 112 = false := decide_eq_false (by omega)
              have eF : pF ln t p = p + 1 := by unfold pF; rw [i1, i2, i3, if_neg (by decide), if_neg (by decide), if_neg (by decide), if_pos (by omega)]; omega
              have hFn : ¬ pF ln t p = -9 := by omega
              have hFv : (if pF ln t p = -9 then pr ln t n (p + 4) ns (ps ++ [(t (p + 1) - 48, t (p + 2) - 48, t (p + 3) - 97)]) else (pF ln t p, ns, ps)) = (p + 1, ns, ps) := by rw [if_neg hFn, eF]
              have ht := hM.2.2.2.1 p
              refine f_aln 0 rfl hL rfl ?_
              refine m_gfr so55 rfl hw rfl (by decide) ?_
              refine f_aln 0 rfl hL rfl ?_
              refine m_gfi so55 (p) rfl hw hm rfl h14 ?_
              refine m_ia sa64 (t p) rfl hw hm (by omega) (by omega) (by decide) (hM.2.2.1 p (by omega) (by omega)) ?_
              refine f_bipush (n := 78) rfl (by decide) ?_
              refine f_ic rfl (by omega) (by omega) (fun _ => ?_) (fun c_9 => absurd (show ¬ (t p : Int) = (78 : Int) from hN) c_9)
              refine f_aln 0 rfl hL rfl ?_
              refine m_gfr so55 rfl hw rfl (by decide) ?_
              refine f_aln 0 rfl hL rfl ?_
              refine m_gfi so55 (p) rfl hw hm rfl h14 ?_
              refine m_ia sa64 (t p) rfl hw hm (by omega) (by omega) (by decide) (hM.2.2.1 p (by omega) (by omega)) ?_
              refine f_bipush (n := 80) rfl (by decide) ?_
              refine f_ic rfl (by omega) (by omega) (fun c_9 => absurd (show ¬ (t p : Int) = (80 : Int) from c_9) (fun z => z hP)) (fun _ => ?_)
              refine f_aln 0 rfl hL rfl ?_
              refine m_gfi so55 ((ps.length : Int)) rfl hw hm rfl hO.2.1 ?_
              refine f_s [fi (5), fi ((ps.length : Int))] rfl rfl ?_
              refine f_ic rfl (by omega) (by omega) (fun c_9 => absurd (show (5 : Int) ≤ ((ps.length : Int) : Int) from c_9) (by omega)) (fun _ => ?_)
              refine f_aln 0 rfl hL rfl ?_
              refine f_s [.ref 55, .ref 55] rfl rfl ?_
              refine m_gfi so55 (p) rfl hw hm rfl h14 ?_
              refine f_s [fi (1), fi (p), .ref 55] rfl rfl ?_
              refine f_iadd rfl ?_
              refine m_pf so55 rfl hw hm rfl rfl (by omega) (fun hc1 hw1 hm1 => ?_)
              refine f_aln 0 rfl hL rfl ?_
              refine f_bipush (n := 48) rfl (by decide) ?_
              refine f_bipush (n := 57) rfl (by decide) ?_
              refine f_bipush (n := 48) rfl (by decide) ?_
              refine m_k1 (t26_end (m := (up m 55 14 (p + 1))) (a := 48) (b := 57) (f := 48) (p := p + 1) (ln := ln) rfl (by omega) (by omega) hM.1 (by omega) (by omega) (by show 48 ≤ 48 ∧ 48 ≤ 65535; omega) (by decide) (by decide) h15 (by omega)) hw1 hm1 rfl rfl rfl (m_ar so55 hw1 rfl) rfl (fun hc2 hw2 hm2 => ?_)
              refine f_istn [(1, fi (0)), (0, .ref 55)] rfl (by decide) hL rfl (fun L1 hL1 => ?_)
              refine f_aln 1 rfl hL1 rfl ?_
              refine m_gfr so55 rfl hw2 rfl (by decide) ?_
              refine f_s [fi (3), .ref 63] rfl rfl ?_
              refine f_aln 1 rfl hL1 rfl ?_
              refine m_gfi so55 ((ps.length : Int)) rfl hw2 hm2 rfl hO.2.1 ?_
              refine f_imul rfl ?_
              refine f_iln 0 rfl hL1 rfl ?_
              refine m_ias sa63 rfl hw2 hm2 (by omega) (by omega) (by decide) (by decide) (fun hc3 hw3 hm3 => ?_)
              refine f_aln 1 rfl hL1 rfl ?_
              refine m_gfr so55 rfl hw3 rfl (by decide) ?_
              refine f_s [fi (3), .ref 63] rfl rfl ?_
              refine f_aln 1 rfl hL1 rfl ?_
              refine m_gfi so55 ((ps.length : Int)) rfl hw3 hm3 rfl hO.2.1 ?_
              refine f_imul rfl ?_
              refine f_s [fi (1), fi (3 * ((ps.length : Int))), .ref 63] rfl rfl ?_
              refine f_iadd rfl ?_
              refine f_aln 1 rfl hL1 rfl ?_
              refine f_bipush (n := 48) rfl (by decide) ?_
              refine f_iln 0 rfl hL1 rfl ?_
              refine f_iadd rfl ?_
              refine f_bipush (n := 57) rfl (by decide) ?_
              refine f_bipush (n := 48) rfl (by decide) ?_
              refine m_k1 (t26_skip (m := (up (up (up m 55 14 (p + 1)) 55 15 (p + 1)) 63 (3 * ((ps.length : Int))).toNat (0))) (a := 48 + 0) (b := 57) (f := 48) (p := p + 1) (ln := ln) rfl (by omega) (by omega) hM.1 (by omega) (by omega) (by show 48 ≤ 48 + 0 ∧ 48 + 0 ≤ 65535; omega) (by decide) (by decide) (g := p + 1) rfl (by omega) (by omega)) hw3 hm3 rfl rfl rfl (m_ar so55 hw3 rfl) rfl (fun hc4 hw4 hm4 => ?_)
              refine m_ias sa63 rfl hw4 hm4 (by omega) (by omega) (by decide) (by decide) (fun hc5 hw5 hm5 => ?_)
              refine f_aln 1 rfl hL1 rfl ?_
              refine m_gfr so55 rfl hw5 rfl (by decide) ?_
              refine f_s [fi (3), .ref 63] rfl rfl ?_
              refine f_aln 1 rfl hL1 rfl ?_
              refine m_gfi so55 ((ps.length : Int)) rfl hw5 hm5 rfl hO.2.1 ?_
              refine f_imul rfl ?_
              refine f_s [fi (2), fi (3 * ((ps.length : Int))), .ref 63] rfl rfl ?_
              refine f_iadd rfl ?_
              refine f_aln 1 rfl hL1 rfl ?_
              refine f_bipush (n := 97) rfl (by decide) ?_
              refine f_bipush (n := 112) rfl (by decide) ?_
              refine f_bipush (n := 97) rfl (by decide) ?_
              refine m_k1 (t26_skip (m := (up (up (up (up (up m 55 14 (p + 1)) 55 15 (p + 1)) 63 (3 * ((ps.length : Int))).toNat (0)) 55 15 (p + 1)) 63 ((3 * ((ps.length : Int))) + 1).toNat (0))) (a := 97) (b := 112) (f := 97) (p := p + 1) (ln := ln) rfl (by omega) (by omega) hM.1 (by omega) (by omega) (by show 48 ≤ 97 ∧ 97 ≤ 65535; omega) (by decide) (by decide) (g := p + 1) rfl (by omega) (by omega)) hw5 hm5 rfl rfl rfl (m_ar so55 hw5 rfl) rfl (fun hc6 hw6 hm6 => ?_)
              refine m_ias sa63 rfl hw6 hm6 (by omega) (by omega) (by decide) (by decide) (fun hc7 hw7 hm7 => ?_)
              refine f_aln 1 rfl hL1 rfl ?_
              refine f_s [.ref 55, .ref 55] rfl rfl ?_
              refine m_gfi so55 ((ps.length : Int)) rfl hw7 hm7 rfl hO.2.1 ?_
              refine f_s [fi (1), fi ((ps.length : Int)), .ref 55] rfl rfl ?_
              refine f_iadd rfl ?_
              refine m_pf so55 rfl hw7 hm7 rfl rfl (by omega) (fun hc8 hw8 hm8 => ?_)
              refine f_goto rfl ?_
              refine f_aln 1 rfl hL1 rfl ?_
              refine m_gfi so55 (p + 1) rfl hw8 hm8 rfl rfl ?_
              refine f_bipush (n := -9) rfl (by decide) ?_
              refine f_ic rfl (by omega) (by omega) (fun _ => ?_) (fun c_9 => absurd (show ¬ (p + 1 : Int) = (-9 : Int) from (by omega)) c_9)
              refine f_aln 1 rfl hL1 rfl ?_
              refine m_gfi so55 (p + 1) rfl hw8 hm8 rfl rfl ?_
              have e : pr ln t (n + 1) p ns ps = (p + 1, ns, ps) := by rw [pr_s, if_neg (by omega), if_neg hN, if_pos hP, if_neg (by omega), hFv]
              rw [e]
              exact f_ret1 rfl ⟨hw8, by rfl, fun z => absurd z (by show ¬ p + 1 = -9; omega)⟩
            · have x1 : m 64 (p + 1).toNat = t (p + 1) := by rw [show p + 1 = p + 1 by omega]; exact hM.2.2.1 (p + 1) (by omega) (by omega)
              have y1 := hM.2.2.2.1 (p + 1)
              by_cases b1 : 48 ≤ t (p + 1) ∧ t (p + 1) ≤ 57
              · have i1 : isW ln t (p + 1) 48 57 = false := decide_eq_false (by omega)
                by_cases c2 : ln ≤ p + 2
                · have i2 : isW ln t (p + 2) (t (p + 1)) 57 = false := decide_eq_false (by omega)
                  have i3 : isW ln t (p + 3) 97 112 = false := decide_eq_false (by omega)
                  have eF : pF ln t p = p + 1 + 1 := by unfold pF; rw [i1, i2, i3, if_neg (by decide), if_neg (by decide), if_neg (by decide), if_pos (by omega)]; omega
                  have hFn : ¬ pF ln t p = -9 := by omega
                  have hFv : (if pF ln t p = -9 then pr ln t n (p + 4) ns (ps ++ [(t (p + 1) - 48, t (p + 2) - 48, t (p + 3) - 97)]) else (pF ln t p, ns, ps)) = (p + 1 + 1, ns, ps) := by rw [if_neg hFn, eF]
                  have ht := hM.2.2.2.1 p
                  refine f_aln 0 rfl hL rfl ?_
                  refine m_gfr so55 rfl hw rfl (by decide) ?_
                  refine f_aln 0 rfl hL rfl ?_
                  refine m_gfi so55 (p) rfl hw hm rfl h14 ?_
                  refine m_ia sa64 (t p) rfl hw hm (by omega) (by omega) (by decide) (hM.2.2.1 p (by omega) (by omega)) ?_
                  refine f_bipush (n := 78) rfl (by decide) ?_
                  refine f_ic rfl (by omega) (by omega) (fun _ => ?_) (fun c_9 => absurd (show ¬ (t p : Int) = (78 : Int) from hN) c_9)
                  refine f_aln 0 rfl hL rfl ?_
                  refine m_gfr so55 rfl hw rfl (by decide) ?_
                  refine f_aln 0 rfl hL rfl ?_
                  refine m_gfi so55 (p) rfl hw hm rfl h14 ?_
                  refine m_ia sa64 (t p) rfl hw hm (by omega) (by omega) (by decide) (hM.2.2.1 p (by omega) (by omega)) ?_
                  refine f_bipush (n := 80) rfl (by decide) ?_
                  refine f_ic rfl (by omega) (by omega) (fun c_9 => absurd (show ¬ (t p : Int) = (80 : Int) from c_9) (fun z => z hP)) (fun _ => ?_)
                  refine f_aln 0 rfl hL rfl ?_
                  refine m_gfi so55 ((ps.length : Int)) rfl hw hm rfl hO.2.1 ?_
                  refine f_s [fi (5), fi ((ps.length : Int))] rfl rfl ?_
                  refine f_ic rfl (by omega) (by omega) (fun c_9 => absurd (show (5 : Int) ≤ ((ps.length : Int) : Int) from c_9) (by omega)) (fun _ => ?_)
                  refine f_aln 0 rfl hL rfl ?_
                  refine f_s [.ref 55, .ref 55] rfl rfl ?_
                  refine m_gfi so55 (p) rfl hw hm rfl h14 ?_
                  refine f_s [fi (1), fi (p), .ref 55] rfl rfl ?_
                  refine f_iadd rfl ?_
                  refine m_pf so55 rfl hw hm rfl rfl (by omega) (fun hc1 hw1 hm1 => ?_)
                  refine f_aln 0 rfl hL rfl ?_
                  refine f_bipush (n := 48) rfl (by decide) ?_
                  refine f_bipush (n := 57) rfl (by decide) ?_
                  refine f_bipush (n := 48) rfl (by decide) ?_
                  refine m_k1 (t26_ok (m := (up m 55 14 (p + 1))) (a := 48) (b := 57) (f := 48) (p := p + 1) (ln := ln) rfl (by omega) (by omega) hM.1 (by omega) (by omega) (by show 48 ≤ 48 ∧ 48 ≤ 65535; omega) (by decide) (by decide) h15 (by omega) (v := t (p + 1)) (x1) (by omega) (by omega)) hw1 hm1 rfl rfl rfl (m_ar so55 hw1 rfl) rfl (fun hc2 hw2 hm2 => ?_)
                  refine f_istn [(1, fi (t (p + 1) - 48)), (0, .ref 55)] rfl (by decide) hL rfl (fun L1 hL1 => ?_)
                  refine f_aln 1 rfl hL1 rfl ?_
                  refine m_gfr so55 rfl hw2 rfl (by decide) ?_
                  refine f_s [fi (3), .ref 63] rfl rfl ?_
                  refine f_aln 1 rfl hL1 rfl ?_
                  refine m_gfi so55 ((ps.length : Int)) rfl hw2 hm2 rfl hO.2.1 ?_
                  refine f_imul rfl ?_
                  refine f_iln 0 rfl hL1 rfl ?_
                  refine m_ias sa63 rfl hw2 hm2 (by omega) (by omega) (by decide) (by omega) (fun hc3 hw3 hm3 => ?_)
                  refine f_aln 1 rfl hL1 rfl ?_
                  refine m_gfr so55 rfl hw3 rfl (by decide) ?_
                  refine f_s [fi (3), .ref 63] rfl rfl ?_
                  refine f_aln 1 rfl hL1 rfl ?_
                  refine m_gfi so55 ((ps.length : Int)) rfl hw3 hm3 rfl hO.2.1 ?_
                  refine f_imul rfl ?_
                  refine f_s [fi (1), fi (3 * ((ps.length : Int))), .ref 63] rfl rfl ?_
                  refine f_iadd rfl ?_
                  refine f_aln 1 rfl hL1 rfl ?_
                  refine f_bipush (n := 48) rfl (by decide) ?_
                  refine f_iln 0 rfl hL1 rfl ?_
                  refine f_iadd rfl ?_
                  refine f_bipush (n := 57) rfl (by decide) ?_
                  refine f_bipush (n := 48) rfl (by decide) ?_
                  refine m_k1 (t26_end (m := (up (up (up m 55 14 (p + 1)) 55 14 (p + 1 + 1)) 63 (3 * ((ps.length : Int))).toNat (t (p + 1) - 48))) (a := 48 + (t (p + 1) - 48)) (b := 57) (f := 48) (p := p + 1 + 1) (ln := ln) rfl (by omega) (by omega) hM.1 (by omega) (by omega) (by show 48 ≤ 48 + (t (p + 1) - 48) ∧ 48 + (t (p + 1) - 48) ≤ 65535; omega) (by decide) (by decide) h15 (by omega)) hw3 hm3 rfl rfl rfl (m_ar so55 hw3 rfl) rfl (fun hc4 hw4 hm4 => ?_)
                  refine m_ias sa63 rfl hw4 hm4 (by omega) (by omega) (by decide) (by decide) (fun hc5 hw5 hm5 => ?_)
                  refine f_aln 1 rfl hL1 rfl ?_
                  refine m_gfr so55 rfl hw5 rfl (by decide) ?_
                  refine f_s [fi (3), .ref 63] rfl rfl ?_
                  refine f_aln 1 rfl hL1 rfl ?_
                  refine m_gfi so55 ((ps.length : Int)) rfl hw5 hm5 rfl hO.2.1 ?_
                  refine f_imul rfl ?_
                  refine f_s [fi (2), fi (3 * ((ps.length : Int))), .ref 63] rfl rfl ?_
                  refine f_iadd rfl ?_
                  refine f_aln 1 rfl hL1 rfl ?_
                  refine f_bipush (n := 97) rfl (by decide) ?_
                  refine f_bipush (n := 112) rfl (by decide) ?_
                  refine f_bipush (n := 97) rfl (by decide) ?_
                  refine m_k1 (t26_skip (m := (up (up (up (up (up m 55 14 (p + 1)) 55 14 (p + 1 + 1)) 63 (3 * ((ps.length : Int))).toNat (t (p + 1) - 48)) 55 15 (p + 1 + 1)) 63 ((3 * ((ps.length : Int))) + 1).toNat (0))) (a := 97) (b := 112) (f := 97) (p := p + 1 + 1) (ln := ln) rfl (by omega) (by omega) hM.1 (by omega) (by omega) (by show 48 ≤ 97 ∧ 97 ≤ 65535; omega) (by decide) (by decide) (g := p + 1 + 1) rfl (by omega) (by omega)) hw5 hm5 rfl rfl rfl (m_ar so55 hw5 rfl) rfl (fun hc6 hw6 hm6 => ?_)
                  refine m_ias sa63 rfl hw6 hm6 (by omega) (by omega) (by decide) (by decide) (fun hc7 hw7 hm7 => ?_)
                  refine f_aln 1 rfl hL1 rfl ?_
                  refine f_s [.ref 55, .ref 55] rfl rfl ?_
                  refine m_gfi so55 ((ps.length : Int)) rfl hw7 hm7 rfl hO.2.1 ?_
                  refine f_s [fi (1), fi ((ps.length : Int)), .ref 55] rfl rfl ?_
                  refine f_iadd rfl ?_
                  refine m_pf so55 rfl hw7 hm7 rfl rfl (by omega) (fun hc8 hw8 hm8 => ?_)
                  refine f_goto rfl ?_
                  refine f_aln 1 rfl hL1 rfl ?_
                  refine m_gfi so55 (p + 1 + 1) rfl hw8 hm8 rfl rfl ?_
                  refine f_bipush (n := -9) rfl (by decide) ?_
                  refine f_ic rfl (by omega) (by omega) (fun _ => ?_) (fun c_9 => absurd (show ¬ (p + 1 + 1 : Int) = (-9 : Int) from (by omega)) c_9)
                  refine f_aln 1 rfl hL1 rfl ?_
                  refine m_gfi so55 (p + 1 + 1) rfl hw8 hm8 rfl rfl ?_
                  have e : pr ln t (n + 1) p ns ps = (p + 1 + 1, ns, ps) := by rw [pr_s, if_neg (by omega), if_neg hN, if_pos hP, if_neg (by omega), hFv]
                  rw [e]
                  exact f_ret1 rfl ⟨hw8, by rfl, fun z => absurd z (by show ¬ p + 1 + 1 = -9; omega)⟩
                · have x2 : m 64 (p + 1 + 1).toNat = t (p + 2) := by rw [show p + 1 + 1 = p + 2 by omega]; exact hM.2.2.1 (p + 2) (by omega) (by omega)
                  have y2 := hM.2.2.2.1 (p + 2)
                  by_cases b2 : t (p + 1) ≤ t (p + 2) ∧ t (p + 2) ≤ 57
                  · have i2 : isW ln t (p + 2) (t (p + 1)) 57 = false := decide_eq_false (by omega)
                    by_cases c3 : ln ≤ p + 3
                    · have i3 : isW ln t (p + 3) 97 112 = false := decide_eq_false (by omega)
                      have eF : pF ln t p = p + 1 + 1 + 1 := by unfold pF; rw [i1, i2, i3, if_neg (by decide), if_neg (by decide), if_neg (by decide), if_pos (by omega)]; omega
                      have hFn : ¬ pF ln t p = -9 := by omega
                      have hFv : (if pF ln t p = -9 then pr ln t n (p + 4) ns (ps ++ [(t (p + 1) - 48, t (p + 2) - 48, t (p + 3) - 97)]) else (pF ln t p, ns, ps)) = (p + 1 + 1 + 1, ns, ps) := by rw [if_neg hFn, eF]
                      have ht := hM.2.2.2.1 p
                      refine f_aln 0 rfl hL rfl ?_
                      refine m_gfr so55 rfl hw rfl (by decide) ?_
                      refine f_aln 0 rfl hL rfl ?_
                      refine m_gfi so55 (p) rfl hw hm rfl h14 ?_
                      refine m_ia sa64 (t p) rfl hw hm (by omega) (by omega) (by decide) (hM.2.2.1 p (by omega) (by omega)) ?_
                      refine f_bipush (n := 78) rfl (by decide) ?_
                      refine f_ic rfl (by omega) (by omega) (fun _ => ?_) (fun c_9 => absurd (show ¬ (t p : Int) = (78 : Int) from hN) c_9)
                      refine f_aln 0 rfl hL rfl ?_
                      refine m_gfr so55 rfl hw rfl (by decide) ?_
                      refine f_aln 0 rfl hL rfl ?_
                      refine m_gfi so55 (p) rfl hw hm rfl h14 ?_
                      refine m_ia sa64 (t p) rfl hw hm (by omega) (by omega) (by decide) (hM.2.2.1 p (by omega) (by omega)) ?_
                      refine f_bipush (n := 80) rfl (by decide) ?_
                      refine f_ic rfl (by omega) (by omega) (fun c_9 => absurd (show ¬ (t p : Int) = (80 : Int) from c_9) (fun z => z hP)) (fun _ => ?_)
                      refine f_aln 0 rfl hL rfl ?_
                      refine m_gfi so55 ((ps.length : Int)) rfl hw hm rfl hO.2.1 ?_
                      refine f_s [fi (5), fi ((ps.length : Int))] rfl rfl ?_
                      refine f_ic rfl (by omega) (by omega) (fun c_9 => absurd (show (5 : Int) ≤ ((ps.length : Int) : Int) from c_9) (by omega)) (fun _ => ?_)
                      refine f_aln 0 rfl hL rfl ?_
                      refine f_s [.ref 55, .ref 55] rfl rfl ?_
                      refine m_gfi so55 (p) rfl hw hm rfl h14 ?_
                      refine f_s [fi (1), fi (p), .ref 55] rfl rfl ?_
                      refine f_iadd rfl ?_
                      refine m_pf so55 rfl hw hm rfl rfl (by omega) (fun hc1 hw1 hm1 => ?_)
                      refine f_aln 0 rfl hL rfl ?_
                      refine f_bipush (n := 48) rfl (by decide) ?_
                      refine f_bipush (n := 57) rfl (by decide) ?_
                      refine f_bipush (n := 48) rfl (by decide) ?_
                      refine m_k1 (t26_ok (m := (up m 55 14 (p + 1))) (a := 48) (b := 57) (f := 48) (p := p + 1) (ln := ln) rfl (by omega) (by omega) hM.1 (by omega) (by omega) (by show 48 ≤ 48 ∧ 48 ≤ 65535; omega) (by decide) (by decide) h15 (by omega) (v := t (p + 1)) (x1) (by omega) (by omega)) hw1 hm1 rfl rfl rfl (m_ar so55 hw1 rfl) rfl (fun hc2 hw2 hm2 => ?_)
                      refine f_istn [(1, fi (t (p + 1) - 48)), (0, .ref 55)] rfl (by decide) hL rfl (fun L1 hL1 => ?_)
                      refine f_aln 1 rfl hL1 rfl ?_
                      refine m_gfr so55 rfl hw2 rfl (by decide) ?_
                      refine f_s [fi (3), .ref 63] rfl rfl ?_
                      refine f_aln 1 rfl hL1 rfl ?_
                      refine m_gfi so55 ((ps.length : Int)) rfl hw2 hm2 rfl hO.2.1 ?_
                      refine f_imul rfl ?_
                      refine f_iln 0 rfl hL1 rfl ?_
                      refine m_ias sa63 rfl hw2 hm2 (by omega) (by omega) (by decide) (by omega) (fun hc3 hw3 hm3 => ?_)
                      refine f_aln 1 rfl hL1 rfl ?_
                      refine m_gfr so55 rfl hw3 rfl (by decide) ?_
                      refine f_s [fi (3), .ref 63] rfl rfl ?_
                      refine f_aln 1 rfl hL1 rfl ?_
                      refine m_gfi so55 ((ps.length : Int)) rfl hw3 hm3 rfl hO.2.1 ?_
                      refine f_imul rfl ?_
                      refine f_s [fi (1), fi (3 * ((ps.length : Int))), .ref 63] rfl rfl ?_
                      refine f_iadd rfl ?_
                      refine f_aln 1 rfl hL1 rfl ?_
                      refine f_bipush (n := 48) rfl (by decide) ?_
                      refine f_iln 0 rfl hL1 rfl ?_
                      refine f_iadd rfl ?_
                      refine f_bipush (n := 57) rfl (by decide) ?_
                      refine f_bipush (n := 48) rfl (by decide) ?_
                      refine m_k1 (t26_ok (m := (up (up (up m 55 14 (p + 1)) 55 14 (p + 1 + 1)) 63 (3 * ((ps.length : Int))).toNat (t (p + 1) - 48))) (a := 48 + (t (p + 1) - 48)) (b := 57) (f := 48) (p := p + 1 + 1) (ln := ln) rfl (by omega) (by omega) hM.1 (by omega) (by omega) (by show 48 ≤ 48 + (t (p + 1) - 48) ∧ 48 + (t (p + 1) - 48) ≤ 65535; omega) (by decide) (by decide) h15 (by omega) (v := t (p + 2)) (x2) (by omega) (by omega)) hw3 hm3 rfl rfl rfl (m_ar so55 hw3 rfl) rfl (fun hc4 hw4 hm4 => ?_)
                      refine m_ias sa63 rfl hw4 hm4 (by omega) (by omega) (by decide) (by omega) (fun hc5 hw5 hm5 => ?_)
                      refine f_aln 1 rfl hL1 rfl ?_
                      refine m_gfr so55 rfl hw5 rfl (by decide) ?_
                      refine f_s [fi (3), .ref 63] rfl rfl ?_
                      refine f_aln 1 rfl hL1 rfl ?_
                      refine m_gfi so55 ((ps.length : Int)) rfl hw5 hm5 rfl hO.2.1 ?_
                      refine f_imul rfl ?_
                      refine f_s [fi (2), fi (3 * ((ps.length : Int))), .ref 63] rfl rfl ?_
                      refine f_iadd rfl ?_
                      refine f_aln 1 rfl hL1 rfl ?_
                      refine f_bipush (n := 97) rfl (by decide) ?_
                      refine f_bipush (n := 112) rfl (by decide) ?_
                      refine f_bipush (n := 97) rfl (by decide) ?_
                      refine m_k1 (t26_end (m := (up (up (up (up (up m 55 14 (p + 1)) 55 14 (p + 1 + 1)) 63 (3 * ((ps.length : Int))).toNat (t (p + 1) - 48)) 55 14 (p + 1 + 1 + 1)) 63 ((3 * ((ps.length : Int))) + 1).toNat (t (p + 2) - 48))) (a := 97) (b := 112) (f := 97) (p := p + 1 + 1 + 1) (ln := ln) rfl (by omega) (by omega) hM.1 (by omega) (by omega) (by show 48 ≤ 97 ∧ 97 ≤ 65535; omega) (by decide) (by decide) h15 (by omega)) hw5 hm5 rfl rfl rfl (m_ar so55 hw5 rfl) rfl (fun hc6 hw6 hm6 => ?_)
                      refine m_ias sa63 rfl hw6 hm6 (by omega) (by omega) (by decide) (by decide) (fun hc7 hw7 hm7 => ?_)
                      refine f_aln 1 rfl hL1 rfl ?_
                      refine f_s [.ref 55, .ref 55] rfl rfl ?_
                      refine m_gfi so55 ((ps.length : Int)) rfl hw7 hm7 rfl hO.2.1 ?_
                      refine f_s [fi (1), fi ((ps.length : Int)), .ref 55] rfl rfl ?_
                      refine f_iadd rfl ?_
                      refine m_pf so55 rfl hw7 hm7 rfl rfl (by omega) (fun hc8 hw8 hm8 => ?_)
                      refine f_goto rfl ?_
                      refine f_aln 1 rfl hL1 rfl ?_
                      refine m_gfi so55 (p + 1 + 1 + 1) rfl hw8 hm8 rfl rfl ?_
                      refine f_bipush (n := -9) rfl (by decide) ?_
                      refine f_ic rfl (by omega) (by omega) (fun _ => ?_) (fun c_9 => absurd (show ¬ (p + 1 + 1 + 1 : Int) = (-9 : Int) from (by omega)) c_9)
                      refine f_aln 1 rfl hL1 rfl ?_
                      refine m_gfi so55 (p + 1 + 1 + 1) rfl hw8 hm8 rfl rfl ?_
                      have e : pr ln t (n + 1) p ns ps = (p + 1 + 1 + 1, ns, ps) := by rw [pr_s, if_neg (by omega), if_neg hN, if_pos hP, if_neg (by omega), hFv]
                      rw [e]
                      exact f_ret1 rfl ⟨hw8, by rfl, fun z => absurd z (by show ¬ p + 1 + 1 + 1 = -9; omega)⟩
                    · have x3 : m 64 (p + 1 + 1 + 1).toNat = t (p + 3) := by rw [show p + 1 + 1 + 1 = p + 3 by omega]; exact hM.2.2.1 (p + 3) (by omega) (by omega)
                      have y3 := hM.2.2.2.1 (p + 3)
                      by_cases b3 : 97 ≤ t (p + 3) ∧ t (p + 3) ≤ 112
                      · have i3 : isW ln t (p + 3) 97 112 = false := decide_eq_false (by omega)
                        have hFv : pF ln t p = -9 := by unfold pF; rw [i1, i2, i3, if_neg (by decide), if_neg (by decide), if_neg (by decide), if_neg (by omega)]
                        have ht := hM.2.2.2.1 p
                        refine f_aln 0 rfl hL rfl ?_
                        refine m_gfr so55 rfl hw rfl (by decide) ?_
                        refine f_aln 0 rfl hL rfl ?_
                        refine m_gfi so55 (p) rfl hw hm rfl h14 ?_
                        refine m_ia sa64 (t p) rfl hw hm (by omega) (by omega) (by decide) (hM.2.2.1 p (by omega) (by omega)) ?_
                        refine f_bipush (n := 78) rfl (by decide) ?_
                        refine f_ic rfl (by omega) (by omega) (fun _ => ?_) (fun c_9 => absurd (show ¬ (t p : Int) = (78 : Int) from hN) c_9)
                        refine f_aln 0 rfl hL rfl ?_
                        refine m_gfr so55 rfl hw rfl (by decide) ?_
                        refine f_aln 0 rfl hL rfl ?_
                        refine m_gfi so55 (p) rfl hw hm rfl h14 ?_
                        refine m_ia sa64 (t p) rfl hw hm (by omega) (by omega) (by decide) (hM.2.2.1 p (by omega) (by omega)) ?_
                        refine f_bipush (n := 80) rfl (by decide) ?_
                        refine f_ic rfl (by omega) (by omega) (fun c_9 => absurd (show ¬ (t p : Int) = (80 : Int) from c_9) (fun z => z hP)) (fun _ => ?_)
                        refine f_aln 0 rfl hL rfl ?_
                        refine m_gfi so55 ((ps.length : Int)) rfl hw hm rfl hO.2.1 ?_
                        refine f_s [fi (5), fi ((ps.length : Int))] rfl rfl ?_
                        refine f_ic rfl (by omega) (by omega) (fun c_9 => absurd (show (5 : Int) ≤ ((ps.length : Int) : Int) from c_9) (by omega)) (fun _ => ?_)
                        refine f_aln 0 rfl hL rfl ?_
                        refine f_s [.ref 55, .ref 55] rfl rfl ?_
                        refine m_gfi so55 (p) rfl hw hm rfl h14 ?_
                        refine f_s [fi (1), fi (p), .ref 55] rfl rfl ?_
                        refine f_iadd rfl ?_
                        refine m_pf so55 rfl hw hm rfl rfl (by omega) (fun hc1 hw1 hm1 => ?_)
                        refine f_aln 0 rfl hL rfl ?_
                        refine f_bipush (n := 48) rfl (by decide) ?_
                        refine f_bipush (n := 57) rfl (by decide) ?_
                        refine f_bipush (n := 48) rfl (by decide) ?_
                        refine m_k1 (t26_ok (m := (up m 55 14 (p + 1))) (a := 48) (b := 57) (f := 48) (p := p + 1) (ln := ln) rfl (by omega) (by omega) hM.1 (by omega) (by omega) (by show 48 ≤ 48 ∧ 48 ≤ 65535; omega) (by decide) (by decide) h15 (by omega) (v := t (p + 1)) (x1) (by omega) (by omega)) hw1 hm1 rfl rfl rfl (m_ar so55 hw1 rfl) rfl (fun hc2 hw2 hm2 => ?_)
                        refine f_istn [(1, fi (t (p + 1) - 48)), (0, .ref 55)] rfl (by decide) hL rfl (fun L1 hL1 => ?_)
                        refine f_aln 1 rfl hL1 rfl ?_
                        refine m_gfr so55 rfl hw2 rfl (by decide) ?_
                        refine f_s [fi (3), .ref 63] rfl rfl ?_
                        refine f_aln 1 rfl hL1 rfl ?_
                        refine m_gfi so55 ((ps.length : Int)) rfl hw2 hm2 rfl hO.2.1 ?_
                        refine f_imul rfl ?_
                        refine f_iln 0 rfl hL1 rfl ?_
                        refine m_ias sa63 rfl hw2 hm2 (by omega) (by omega) (by decide) (by omega) (fun hc3 hw3 hm3 => ?_)
                        refine f_aln 1 rfl hL1 rfl ?_
                        refine m_gfr so55 rfl hw3 rfl (by decide) ?_
                        refine f_s [fi (3), .ref 63] rfl rfl ?_
                        refine f_aln 1 rfl hL1 rfl ?_
                        refine m_gfi so55 ((ps.length : Int)) rfl hw3 hm3 rfl hO.2.1 ?_
                        refine f_imul rfl ?_
                        refine f_s [fi (1), fi (3 * ((ps.length : Int))), .ref 63] rfl rfl ?_
                        refine f_iadd rfl ?_
                        refine f_aln 1 rfl hL1 rfl ?_
                        refine f_bipush (n := 48) rfl (by decide) ?_
                        refine f_iln 0 rfl hL1 rfl ?_
                        refine f_iadd rfl ?_
                        refine f_bipush (n := 57) rfl (by decide) ?_
                        refine f_bipush (n := 48) rfl (by decide) ?_
                        refine m_k1 (t26_ok (m := (up (up (up m 55 14 (p + 1)) 55 14 (p + 1 + 1)) 63 (3 * ((ps.length : Int))).toNat (t (p + 1) - 48))) (a := 48 + (t (p + 1) - 48)) (b := 57) (f := 48) (p := p + 1 + 1) (ln := ln) rfl (by omega) (by omega) hM.1 (by omega) (by omega) (by show 48 ≤ 48 + (t (p + 1) - 48) ∧ 48 + (t (p + 1) - 48) ≤ 65535; omega) (by decide) (by decide) h15 (by omega) (v := t (p + 2)) (x2) (by omega) (by omega)) hw3 hm3 rfl rfl rfl (m_ar so55 hw3 rfl) rfl (fun hc4 hw4 hm4 => ?_)
                        refine m_ias sa63 rfl hw4 hm4 (by omega) (by omega) (by decide) (by omega) (fun hc5 hw5 hm5 => ?_)
                        refine f_aln 1 rfl hL1 rfl ?_
                        refine m_gfr so55 rfl hw5 rfl (by decide) ?_
                        refine f_s [fi (3), .ref 63] rfl rfl ?_
                        refine f_aln 1 rfl hL1 rfl ?_
                        refine m_gfi so55 ((ps.length : Int)) rfl hw5 hm5 rfl hO.2.1 ?_
                        refine f_imul rfl ?_
                        refine f_s [fi (2), fi (3 * ((ps.length : Int))), .ref 63] rfl rfl ?_
                        refine f_iadd rfl ?_
                        refine f_aln 1 rfl hL1 rfl ?_
                        refine f_bipush (n := 97) rfl (by decide) ?_
                        refine f_bipush (n := 112) rfl (by decide) ?_
                        refine f_bipush (n := 97) rfl (by decide) ?_
                        refine m_k1 (t26_ok (m := (up (up (up (up (up m 55 14 (p + 1)) 55 14 (p + 1 + 1)) 63 (3 * ((ps.length : Int))).toNat (t (p + 1) - 48)) 55 14 (p + 1 + 1 + 1)) 63 ((3 * ((ps.length : Int))) + 1).toNat (t (p + 2) - 48))) (a := 97) (b := 112) (f := 97) (p := p + 1 + 1 + 1) (ln := ln) rfl (by omega) (by omega) hM.1 (by omega) (by omega) (by show 48 ≤ 97 ∧ 97 ≤ 65535; omega) (by decide) (by decide) h15 (by omega) (v := t (p + 3)) (x3) (by omega) (by omega)) hw5 hm5 rfl rfl rfl (m_ar so55 hw5 rfl) rfl (fun hc6 hw6 hm6 => ?_)
                        refine m_ias sa63 rfl hw6 hm6 (by omega) (by omega) (by decide) (by omega) (fun hc7 hw7 hm7 => ?_)
                        refine f_aln 1 rfl hL1 rfl ?_
                        refine f_s [.ref 55, .ref 55] rfl rfl ?_
                        refine m_gfi so55 ((ps.length : Int)) rfl hw7 hm7 rfl hO.2.1 ?_
                        refine f_s [fi (1), fi ((ps.length : Int)), .ref 55] rfl rfl ?_
                        refine f_iadd rfl ?_
                        refine m_pf so55 rfl hw7 hm7 rfl rfl (by omega) (fun hc8 hw8 hm8 => ?_)
                        refine f_goto rfl ?_
                        have hO2 : pOK (up (up (up (up (up (up (up (up m 55 14 (p + 1)) 55 14 (p + 1 + 1)) 63 (3 * ((ps.length : Int))).toNat (t (p + 1) - 48)) 55 14 (p + 1 + 1 + 1)) 63 ((3 * ((ps.length : Int))) + 1).toNat (t (p + 2) - 48)) 55 14 (p + 1 + 1 + 1 + 1)) 63 ((3 * ((ps.length : Int))) + 2).toNat (t (p + 3) - 97)) 55 11 (((ps.length : Int)) + 1)) (ns) (ps ++ [(t (p + 1) - 48, t (p + 2) - 48, t (p + 3) - 97)]) := pOK_p hO rfl rfl (fun _ => rfl) (fun i => by
                          have e1 : (3 * (ps.length : Int)).toNat = 3 * ps.length := by omega
                          have e2 : ((3 * (ps.length : Int)) + 1).toNat = 3 * ps.length + 1 := by omega
                          have e3 : ((3 * (ps.length : Int)) + 2).toNat = 3 * ps.length + 2 := by omega
                          simp [up, e1, e2, e3])
                        have e14 : (up (up (up (up (up (up (up (up m 55 14 (p + 1)) 55 14 (p + 1 + 1)) 63 (3 * ((ps.length : Int))).toNat (t (p + 1) - 48)) 55 14 (p + 1 + 1 + 1)) 63 ((3 * ((ps.length : Int))) + 1).toNat (t (p + 2) - 48)) 55 14 (p + 1 + 1 + 1 + 1)) 63 ((3 * ((ps.length : Int))) + 2).toNat (t (p + 3) - 97)) 55 11 (((ps.length : Int)) + 1)) 55 14 = p + 4 := by show p + 1 + 1 + 1 + 1 = _; omega
                        have := ih (p + 4) (ns) (ps ++ [(t (p + 1) - 48, t (p + 2) - 48, t (p + 3) - 97)]) (up (up (up (up (up (up (up (up m 55 14 (p + 1)) 55 14 (p + 1 + 1)) 63 (3 * ((ps.length : Int))).toNat (t (p + 1) - 48)) 55 14 (p + 1 + 1 + 1)) 63 ((3 * ((ps.length : Int))) + 1).toNat (t (p + 2) - 48)) 55 14 (p + 1 + 1 + 1 + 1)) 63 ((3 * ((ps.length : Int))) + 2).toNat (t (p + 3) - 97)) 55 11 (((ps.length : Int)) + 1)) hc8 _ hw8 hm8 e14 h15 ⟨hM.1, hM.2.1, hM.2.2.1, hM.2.2.2⟩ hO2 (by omega) (by omega) (by omega) (by omega) (by rw [List.length_append]; show ps.length + 1 ≤ 5; omega) (hL1.sel [1] rfl)
                        rw [pr_s, if_neg (by omega), if_neg hN, if_pos hP, if_neg (by omega), if_pos hFv]
                        exact this
                      · have i3 : isW ln t (p + 3) 97 112 = true := decide_eq_true (by omega)
                        have eF : pF ln t p = p + 1 + 1 + 1 := by unfold pF; rw [i1, i2, i3, if_neg (by decide), if_neg (by decide), if_pos rfl]; omega
                        have hFn : ¬ pF ln t p = -9 := by omega
                        have hFv : (if pF ln t p = -9 then pr ln t n (p + 4) ns (ps ++ [(t (p + 1) - 48, t (p + 2) - 48, t (p + 3) - 97)]) else (pF ln t p, ns, ps)) = (p + 1 + 1 + 1, ns, ps) := by rw [if_neg hFn, eF]
                        have ht := hM.2.2.2.1 p
                        refine f_aln 0 rfl hL rfl ?_
                        refine m_gfr so55 rfl hw rfl (by decide) ?_
                        refine f_aln 0 rfl hL rfl ?_
                        refine m_gfi so55 (p) rfl hw hm rfl h14 ?_
                        refine m_ia sa64 (t p) rfl hw hm (by omega) (by omega) (by decide) (hM.2.2.1 p (by omega) (by omega)) ?_
                        refine f_bipush (n := 78) rfl (by decide) ?_
                        refine f_ic rfl (by omega) (by omega) (fun _ => ?_) (fun c_9 => absurd (show ¬ (t p : Int) = (78 : Int) from hN) c_9)
                        refine f_aln 0 rfl hL rfl ?_
                        refine m_gfr so55 rfl hw rfl (by decide) ?_
                        refine f_aln 0 rfl hL rfl ?_
                        refine m_gfi so55 (p) rfl hw hm rfl h14 ?_
                        refine m_ia sa64 (t p) rfl hw hm (by omega) (by omega) (by decide) (hM.2.2.1 p (by omega) (by omega)) ?_
                        refine f_bipush (n := 80) rfl (by decide) ?_
                        refine f_ic rfl (by omega) (by omega) (fun c_9 => absurd (show ¬ (t p : Int) = (80 : Int) from c_9) (fun z => z hP)) (fun _ => ?_)
                        refine f_aln 0 rfl hL rfl ?_
                        refine m_gfi so55 ((ps.length : Int)) rfl hw hm rfl hO.2.1 ?_
                        refine f_s [fi (5), fi ((ps.length : Int))] rfl rfl ?_
                        refine f_ic rfl (by omega) (by omega) (fun c_9 => absurd (show (5 : Int) ≤ ((ps.length : Int) : Int) from c_9) (by omega)) (fun _ => ?_)
                        refine f_aln 0 rfl hL rfl ?_
                        refine f_s [.ref 55, .ref 55] rfl rfl ?_
                        refine m_gfi so55 (p) rfl hw hm rfl h14 ?_
                        refine f_s [fi (1), fi (p), .ref 55] rfl rfl ?_
                        refine f_iadd rfl ?_
                        refine m_pf so55 rfl hw hm rfl rfl (by omega) (fun hc1 hw1 hm1 => ?_)
                        refine f_aln 0 rfl hL rfl ?_
                        refine f_bipush (n := 48) rfl (by decide) ?_
                        refine f_bipush (n := 57) rfl (by decide) ?_
                        refine f_bipush (n := 48) rfl (by decide) ?_
                        refine m_k1 (t26_ok (m := (up m 55 14 (p + 1))) (a := 48) (b := 57) (f := 48) (p := p + 1) (ln := ln) rfl (by omega) (by omega) hM.1 (by omega) (by omega) (by show 48 ≤ 48 ∧ 48 ≤ 65535; omega) (by decide) (by decide) h15 (by omega) (v := t (p + 1)) (x1) (by omega) (by omega)) hw1 hm1 rfl rfl rfl (m_ar so55 hw1 rfl) rfl (fun hc2 hw2 hm2 => ?_)
                        refine f_istn [(1, fi (t (p + 1) - 48)), (0, .ref 55)] rfl (by decide) hL rfl (fun L1 hL1 => ?_)
                        refine f_aln 1 rfl hL1 rfl ?_
                        refine m_gfr so55 rfl hw2 rfl (by decide) ?_
                        refine f_s [fi (3), .ref 63] rfl rfl ?_
                        refine f_aln 1 rfl hL1 rfl ?_
                        refine m_gfi so55 ((ps.length : Int)) rfl hw2 hm2 rfl hO.2.1 ?_
                        refine f_imul rfl ?_
                        refine f_iln 0 rfl hL1 rfl ?_
                        refine m_ias sa63 rfl hw2 hm2 (by omega) (by omega) (by decide) (by omega) (fun hc3 hw3 hm3 => ?_)
                        refine f_aln 1 rfl hL1 rfl ?_
                        refine m_gfr so55 rfl hw3 rfl (by decide) ?_
                        refine f_s [fi (3), .ref 63] rfl rfl ?_
                        refine f_aln 1 rfl hL1 rfl ?_
                        refine m_gfi so55 ((ps.length : Int)) rfl hw3 hm3 rfl hO.2.1 ?_
                        refine f_imul rfl ?_
                        refine f_s [fi (1), fi (3 * ((ps.length : Int))), .ref 63] rfl rfl ?_
                        refine f_iadd rfl ?_
                        refine f_aln 1 rfl hL1 rfl ?_
                        refine f_bipush (n := 48) rfl (by decide) ?_
                        refine f_iln 0 rfl hL1 rfl ?_
                        refine f_iadd rfl ?_
                        refine f_bipush (n := 57) rfl (by decide) ?_
                        refine f_bipush (n := 48) rfl (by decide) ?_
                        refine m_k1 (t26_ok (m := (up (up (up m 55 14 (p + 1)) 55 14 (p + 1 + 1)) 63 (3 * ((ps.length : Int))).toNat (t (p + 1) - 48))) (a := 48 + (t (p + 1) - 48)) (b := 57) (f := 48) (p := p + 1 + 1) (ln := ln) rfl (by omega) (by omega) hM.1 (by omega) (by omega) (by show 48 ≤ 48 + (t (p + 1) - 48) ∧ 48 + (t (p + 1) - 48) ≤ 65535; omega) (by decide) (by decide) h15 (by omega) (v := t (p + 2)) (x2) (by omega) (by omega)) hw3 hm3 rfl rfl rfl (m_ar so55 hw3 rfl) rfl (fun hc4 hw4 hm4 => ?_)
                        refine m_ias sa63 rfl hw4 hm4 (by omega) (by omega) (by decide) (by omega) (fun hc5 hw5 hm5 => ?_)
                        refine f_aln 1 rfl hL1 rfl ?_
                        refine m_gfr so55 rfl hw5 rfl (by decide) ?_
                        refine f_s [fi (3), .ref 63] rfl rfl ?_
                        refine f_aln 1 rfl hL1 rfl ?_
                        refine m_gfi so55 ((ps.length : Int)) rfl hw5 hm5 rfl hO.2.1 ?_
                        refine f_imul rfl ?_
                        refine f_s [fi (2), fi (3 * ((ps.length : Int))), .ref 63] rfl rfl ?_
                        refine f_iadd rfl ?_
                        refine f_aln 1 rfl hL1 rfl ?_
                        refine f_bipush (n := 97) rfl (by decide) ?_
                        refine f_bipush (n := 112) rfl (by decide) ?_
                        refine f_bipush (n := 97) rfl (by decide) ?_
                        refine m_k1 (t26_bad (m := (up (up (up (up (up m 55 14 (p + 1)) 55 14 (p + 1 + 1)) 63 (3 * ((ps.length : Int))).toNat (t (p + 1) - 48)) 55 14 (p + 1 + 1 + 1)) 63 ((3 * ((ps.length : Int))) + 1).toNat (t (p + 2) - 48))) (a := 97) (b := 112) (f := 97) (p := p + 1 + 1 + 1) (ln := ln) rfl (by omega) (by omega) hM.1 (by omega) (by omega) (by show 48 ≤ 97 ∧ 97 ≤ 65535; omega) (by decide) (by decide) h15 (by omega) (v := t (p + 3)) (x3) (by omega) (by omega)) hw5 hm5 rfl rfl rfl (m_ar so55 hw5 rfl) rfl (fun hc6 hw6 hm6 => ?_)
                        refine m_ias sa63 rfl hw6 hm6 (by omega) (by omega) (by decide) (by decide) (fun hc7 hw7 hm7 => ?_)
                        refine f_aln 1 rfl hL1 rfl ?_
                        refine f_s [.ref 55, .ref 55] rfl rfl ?_
                        refine m_gfi so55 ((ps.length : Int)) rfl hw7 hm7 rfl hO.2.1 ?_
                        refine f_s [fi (1), fi ((ps.length : Int)), .ref 55] rfl rfl ?_
                        refine f_iadd rfl ?_
                        refine m_pf so55 rfl hw7 hm7 rfl rfl (by omega) (fun hc8 hw8 hm8 => ?_)
                        refine f_goto rfl ?_
                        refine f_aln 1 rfl hL1 rfl ?_
                        refine m_gfi so55 (p + 1 + 1 + 1) rfl hw8 hm8 rfl rfl ?_
                        refine f_bipush (n := -9) rfl (by decide) ?_
                        refine f_ic rfl (by omega) (by omega) (fun _ => ?_) (fun c_9 => absurd (show ¬ (p + 1 + 1 + 1 : Int) = (-9 : Int) from (by omega)) c_9)
                        refine f_aln 1 rfl hL1 rfl ?_
                        refine m_gfi so55 (p + 1 + 1 + 1) rfl hw8 hm8 rfl rfl ?_
                        have e : pr ln t (n + 1) p ns ps = (p + 1 + 1 + 1, ns, ps) := by rw [pr_s, if_neg (by omega), if_neg hN, if_pos hP, if_neg (by omega), hFv]
                        rw [e]
                        exact f_ret1 rfl ⟨hw8, by rfl, fun z => absurd z (by show ¬ p + 1 + 1 + 1 = -9; omega)⟩
                  · have i2 : isW ln t (p + 2) (t (p + 1)) 57 = true := decide_eq_true (by omega)
                    have eF : pF ln t p = p + 1 + 1 := by unfold pF; rw [i1, i2, if_neg (by decide), if_pos rfl]; omega
                    have hFn : ¬ pF ln t p = -9 := by omega
                    have hFv : (if pF ln t p = -9 then pr ln t n (p + 4) ns (ps ++ [(t (p + 1) - 48, t (p + 2) - 48, t (p + 3) - 97)]) else (pF ln t p, ns, ps)) = (p + 1 + 1, ns, ps) := by rw [if_neg hFn, eF]
                    have ht := hM.2.2.2.1 p
                    refine f_aln 0 rfl hL rfl ?_
                    refine m_gfr so55 rfl hw rfl (by decide) ?_
                    refine f_aln 0 rfl hL rfl ?_
                    refine m_gfi so55 (p) rfl hw hm rfl h14 ?_
                    refine m_ia sa64 (t p) rfl hw hm (by omega) (by omega) (by decide) (hM.2.2.1 p (by omega) (by omega)) ?_
                    refine f_bipush (n := 78) rfl (by decide) ?_
                    refine f_ic rfl (by omega) (by omega) (fun _ => ?_) (fun c_9 => absurd (show ¬ (t p : Int) = (78 : Int) from hN) c_9)
                    refine f_aln 0 rfl hL rfl ?_
                    refine m_gfr so55 rfl hw rfl (by decide) ?_
                    refine f_aln 0 rfl hL rfl ?_
                    refine m_gfi so55 (p) rfl hw hm rfl h14 ?_
                    refine m_ia sa64 (t p) rfl hw hm (by omega) (by omega) (by decide) (hM.2.2.1 p (by omega) (by omega)) ?_
                    refine f_bipush (n := 80) rfl (by decide) ?_
                    refine f_ic rfl (by omega) (by omega) (fun c_9 => absurd (show ¬ (t p : Int) = (80 : Int) from c_9) (fun z => z hP)) (fun _ => ?_)
                    refine f_aln 0 rfl hL rfl ?_
                    refine m_gfi so55 ((ps.length : Int)) rfl hw hm rfl hO.2.1 ?_
                    refine f_s [fi (5), fi ((ps.length : Int))] rfl rfl ?_
                    refine f_ic rfl (by omega) (by omega) (fun c_9 => absurd (show (5 : Int) ≤ ((ps.length : Int) : Int) from c_9) (by omega)) (fun _ => ?_)
                    refine f_aln 0 rfl hL rfl ?_
                    refine f_s [.ref 55, .ref 55] rfl rfl ?_
                    refine m_gfi so55 (p) rfl hw hm rfl h14 ?_
                    refine f_s [fi (1), fi (p), .ref 55] rfl rfl ?_
                    refine f_iadd rfl ?_
                    refine m_pf so55 rfl hw hm rfl rfl (by omega) (fun hc1 hw1 hm1 => ?_)
                    refine f_aln 0 rfl hL rfl ?_
                    refine f_bipush (n := 48) rfl (by decide) ?_
                    refine f_bipush (n := 57) rfl (by decide) ?_
                    refine f_bipush (n := 48) rfl (by decide) ?_
                    refine m_k1 (t26_ok (m := (up m 55 14 (p + 1))) (a := 48) (b := 57) (f := 48) (p := p + 1) (ln := ln) rfl (by omega) (by omega) hM.1 (by omega) (by omega) (by show 48 ≤ 48 ∧ 48 ≤ 65535; omega) (by decide) (by decide) h15 (by omega) (v := t (p + 1)) (x1) (by omega) (by omega)) hw1 hm1 rfl rfl rfl (m_ar so55 hw1 rfl) rfl (fun hc2 hw2 hm2 => ?_)
                    refine f_istn [(1, fi (t (p + 1) - 48)), (0, .ref 55)] rfl (by decide) hL rfl (fun L1 hL1 => ?_)
                    refine f_aln 1 rfl hL1 rfl ?_
                    refine m_gfr so55 rfl hw2 rfl (by decide) ?_
                    refine f_s [fi (3), .ref 63] rfl rfl ?_
                    refine f_aln 1 rfl hL1 rfl ?_
                    refine m_gfi so55 ((ps.length : Int)) rfl hw2 hm2 rfl hO.2.1 ?_
                    refine f_imul rfl ?_
                    refine f_iln 0 rfl hL1 rfl ?_
                    refine m_ias sa63 rfl hw2 hm2 (by omega) (by omega) (by decide) (by omega) (fun hc3 hw3 hm3 => ?_)
                    refine f_aln 1 rfl hL1 rfl ?_
                    refine m_gfr so55 rfl hw3 rfl (by decide) ?_
                    refine f_s [fi (3), .ref 63] rfl rfl ?_
                    refine f_aln 1 rfl hL1 rfl ?_
                    refine m_gfi so55 ((ps.length : Int)) rfl hw3 hm3 rfl hO.2.1 ?_
                    refine f_imul rfl ?_
                    refine f_s [fi (1), fi (3 * ((ps.length : Int))), .ref 63] rfl rfl ?_
                    refine f_iadd rfl ?_
                    refine f_aln 1 rfl hL1 rfl ?_
                    refine f_bipush (n := 48) rfl (by decide) ?_
                    refine f_iln 0 rfl hL1 rfl ?_
                    refine f_iadd rfl ?_
                    refine f_bipush (n := 57) rfl (by decide) ?_
                    refine f_bipush (n := 48) rfl (by decide) ?_
                    refine m_k1 (t26_bad (m := (up (up (up m 55 14 (p + 1)) 55 14 (p + 1 + 1)) 63 (3 * ((ps.length : Int))).toNat (t (p + 1) - 48))) (a := 48 + (t (p + 1) - 48)) (b := 57) (f := 48) (p := p + 1 + 1) (ln := ln) rfl (by omega) (by omega) hM.1 (by omega) (by omega) (by show 48 ≤ 48 + (t (p + 1) - 48) ∧ 48 + (t (p + 1) - 48) ≤ 65535; omega) (by decide) (by decide) h15 (by omega) (v := t (p + 2)) (x2) (by omega) (by omega)) hw3 hm3 rfl rfl rfl (m_ar so55 hw3 rfl) rfl (fun hc4 hw4 hm4 => ?_)
                    refine m_ias sa63 rfl hw4 hm4 (by omega) (by omega) (by decide) (by decide) (fun hc5 hw5 hm5 => ?_)
                    refine f_aln 1 rfl hL1 rfl ?_
                    refine m_gfr so55 rfl hw5 rfl (by decide) ?_
                    refine f_s [fi (3), .ref 63] rfl rfl ?_
                    refine f_aln 1 rfl hL1 rfl ?_
                    refine m_gfi so55 ((ps.length : Int)) rfl hw5 hm5 rfl hO.2.1 ?_
                    refine f_imul rfl ?_
                    refine f_s [fi (2), fi (3 * ((ps.length : Int))), .ref 63] rfl rfl ?_
                    refine f_iadd rfl ?_
                    refine f_aln 1 rfl hL1 rfl ?_
                    refine f_bipush (n := 97) rfl (by decide) ?_
                    refine f_bipush (n := 112) rfl (by decide) ?_
                    refine f_bipush (n := 97) rfl (by decide) ?_
                    refine m_k1 (t26_skip (m := (up (up (up (up (up m 55 14 (p + 1)) 55 14 (p + 1 + 1)) 63 (3 * ((ps.length : Int))).toNat (t (p + 1) - 48)) 55 15 (p + 1 + 1)) 63 ((3 * ((ps.length : Int))) + 1).toNat (0))) (a := 97) (b := 112) (f := 97) (p := p + 1 + 1) (ln := ln) rfl (by omega) (by omega) hM.1 (by omega) (by omega) (by show 48 ≤ 97 ∧ 97 ≤ 65535; omega) (by decide) (by decide) (g := p + 1 + 1) rfl (by omega) (by omega)) hw5 hm5 rfl rfl rfl (m_ar so55 hw5 rfl) rfl (fun hc6 hw6 hm6 => ?_)
                    refine m_ias sa63 rfl hw6 hm6 (by omega) (by omega) (by decide) (by decide) (fun hc7 hw7 hm7 => ?_)
                    refine f_aln 1 rfl hL1 rfl ?_
                    refine f_s [.ref 55, .ref 55] rfl rfl ?_
                    refine m_gfi so55 ((ps.length : Int)) rfl hw7 hm7 rfl hO.2.1 ?_
                    refine f_s [fi (1), fi ((ps.length : Int)), .ref 55] rfl rfl ?_
                    refine f_iadd rfl ?_
                    refine m_pf so55 rfl hw7 hm7 rfl rfl (by omega) (fun hc8 hw8 hm8 => ?_)
                    refine f_goto rfl ?_
                    refine f_aln 1 rfl hL1 rfl ?_
                    refine m_gfi so55 (p + 1 + 1) rfl hw8 hm8 rfl rfl ?_
                    refine f_bipush (n := -9) rfl (by decide) ?_
                    refine f_ic rfl (by omega) (by omega) (fun _ => ?_) (fun c_9 => absurd (show ¬ (p + 1 + 1 : Int) = (-9 : Int) from (by omega)) c_9)
                    refine f_aln 1 rfl hL1 rfl ?_
                    refine m_gfi so55 (p + 1 + 1) rfl hw8 hm8 rfl rfl ?_
                    have e : pr ln t (n + 1) p ns ps = (p + 1 + 1, ns, ps) := by rw [pr_s, if_neg (by omega), if_neg hN, if_pos hP, if_neg (by omega), hFv]
                    rw [e]
                    exact f_ret1 rfl ⟨hw8, by rfl, fun z => absurd z (by show ¬ p + 1 + 1 = -9; omega)⟩
              · have i1 : isW ln t (p + 1) 48 57 = true := decide_eq_true (by omega)
                have eF : pF ln t p = p + 1 := by unfold pF; rw [i1, if_pos rfl]
                have hFn : ¬ pF ln t p = -9 := by omega
                have hFv : (if pF ln t p = -9 then pr ln t n (p + 4) ns (ps ++ [(t (p + 1) - 48, t (p + 2) - 48, t (p + 3) - 97)]) else (pF ln t p, ns, ps)) = (p + 1, ns, ps) := by rw [if_neg hFn, eF]
                have ht := hM.2.2.2.1 p
                refine f_aln 0 rfl hL rfl ?_
                refine m_gfr so55 rfl hw rfl (by decide) ?_
                refine f_aln 0 rfl hL rfl ?_
                refine m_gfi so55 (p) rfl hw hm rfl h14 ?_
                refine m_ia sa64 (t p) rfl hw hm (by omega) (by omega) (by decide) (hM.2.2.1 p (by omega) (by omega)) ?_
                refine f_bipush (n := 78) rfl (by decide) ?_
                refine f_ic rfl (by omega) (by omega) (fun _ => ?_) (fun c_9 => absurd (show ¬ (t p : Int) = (78 : Int) from hN) c_9)
                refine f_aln 0 rfl hL rfl ?_
                refine m_gfr so55 rfl hw rfl (by decide) ?_
                refine f_aln 0 rfl hL rfl ?_
                refine m_gfi so55 (p) rfl hw hm rfl h14 ?_
                refine m_ia sa64 (t p) rfl hw hm (by omega) (by omega) (by decide) (hM.2.2.1 p (by omega) (by omega)) ?_
                refine f_bipush (n := 80) rfl (by decide) ?_
                refine f_ic rfl (by omega) (by omega) (fun c_9 => absurd (show ¬ (t p : Int) = (80 : Int) from c_9) (fun z => z hP)) (fun _ => ?_)
                refine f_aln 0 rfl hL rfl ?_
                refine m_gfi so55 ((ps.length : Int)) rfl hw hm rfl hO.2.1 ?_
                refine f_s [fi (5), fi ((ps.length : Int))] rfl rfl ?_
                refine f_ic rfl (by omega) (by omega) (fun c_9 => absurd (show (5 : Int) ≤ ((ps.length : Int) : Int) from c_9) (by omega)) (fun _ => ?_)
                refine f_aln 0 rfl hL rfl ?_
                refine f_s [.ref 55, .ref 55] rfl rfl ?_
                refine m_gfi so55 (p) rfl hw hm rfl h14 ?_
                refine f_s [fi (1), fi (p), .ref 55] rfl rfl ?_
                refine f_iadd rfl ?_
                refine m_pf so55 rfl hw hm rfl rfl (by omega) (fun hc1 hw1 hm1 => ?_)
                refine f_aln 0 rfl hL rfl ?_
                refine f_bipush (n := 48) rfl (by decide) ?_
                refine f_bipush (n := 57) rfl (by decide) ?_
                refine f_bipush (n := 48) rfl (by decide) ?_
                refine m_k1 (t26_bad (m := (up m 55 14 (p + 1))) (a := 48) (b := 57) (f := 48) (p := p + 1) (ln := ln) rfl (by omega) (by omega) hM.1 (by omega) (by omega) (by show 48 ≤ 48 ∧ 48 ≤ 65535; omega) (by decide) (by decide) h15 (by omega) (v := t (p + 1)) (x1) (by omega) (by omega)) hw1 hm1 rfl rfl rfl (m_ar so55 hw1 rfl) rfl (fun hc2 hw2 hm2 => ?_)
                refine f_istn [(1, fi (0)), (0, .ref 55)] rfl (by decide) hL rfl (fun L1 hL1 => ?_)
                refine f_aln 1 rfl hL1 rfl ?_
                refine m_gfr so55 rfl hw2 rfl (by decide) ?_
                refine f_s [fi (3), .ref 63] rfl rfl ?_
                refine f_aln 1 rfl hL1 rfl ?_
                refine m_gfi so55 ((ps.length : Int)) rfl hw2 hm2 rfl hO.2.1 ?_
                refine f_imul rfl ?_
                refine f_iln 0 rfl hL1 rfl ?_
                refine m_ias sa63 rfl hw2 hm2 (by omega) (by omega) (by decide) (by decide) (fun hc3 hw3 hm3 => ?_)
                refine f_aln 1 rfl hL1 rfl ?_
                refine m_gfr so55 rfl hw3 rfl (by decide) ?_
                refine f_s [fi (3), .ref 63] rfl rfl ?_
                refine f_aln 1 rfl hL1 rfl ?_
                refine m_gfi so55 ((ps.length : Int)) rfl hw3 hm3 rfl hO.2.1 ?_
                refine f_imul rfl ?_
                refine f_s [fi (1), fi (3 * ((ps.length : Int))), .ref 63] rfl rfl ?_
                refine f_iadd rfl ?_
                refine f_aln 1 rfl hL1 rfl ?_
                refine f_bipush (n := 48) rfl (by decide) ?_
                refine f_iln 0 rfl hL1 rfl ?_
                refine f_iadd rfl ?_
                refine f_bipush (n := 57) rfl (by decide) ?_
                refine f_bipush (n := 48) rfl (by decide) ?_
                refine m_k1 (t26_skip (m := (up (up (up m 55 14 (p + 1)) 55 15 (p + 1)) 63 (3 * ((ps.length : Int))).toNat (0))) (a := 48 + 0) (b := 57) (f := 48) (p := p + 1) (ln := ln) rfl (by omega) (by omega) hM.1 (by omega) (by omega) (by show 48 ≤ 48 + 0 ∧ 48 + 0 ≤ 65535; omega) (by decide) (by decide) (g := p + 1) rfl (by omega) (by omega)) hw3 hm3 rfl rfl rfl (m_ar so55 hw3 rfl) rfl (fun hc4 hw4 hm4 => ?_)
                refine m_ias sa63 rfl hw4 hm4 (by omega) (by omega) (by decide) (by decide) (fun hc5 hw5 hm5 => ?_)
                refine f_aln 1 rfl hL1 rfl ?_
                refine m_gfr so55 rfl hw5 rfl (by decide) ?_
                refine f_s [fi (3), .ref 63] rfl rfl ?_
                refine f_aln 1 rfl hL1 rfl ?_
                refine m_gfi so55 ((ps.length : Int)) rfl hw5 hm5 rfl hO.2.1 ?_
                refine f_imul rfl ?_
                refine f_s [fi (2), fi (3 * ((ps.length : Int))), .ref 63] rfl rfl ?_
                refine f_iadd rfl ?_
                refine f_aln 1 rfl hL1 rfl ?_
                refine f_bipush (n := 97) rfl (by decide) ?_
                refine f_bipush (n := 112) rfl (by decide) ?_
                refine f_bipush (n := 97) rfl (by decide) ?_
                refine m_k1 (t26_skip (m := (up (up (up (up (up m 55 14 (p + 1)) 55 15 (p + 1)) 63 (3 * ((ps.length : Int))).toNat (0)) 55 15 (p + 1)) 63 ((3 * ((ps.length : Int))) + 1).toNat (0))) (a := 97) (b := 112) (f := 97) (p := p + 1) (ln := ln) rfl (by omega) (by omega) hM.1 (by omega) (by omega) (by show 48 ≤ 97 ∧ 97 ≤ 65535; omega) (by decide) (by decide) (g := p + 1) rfl (by omega) (by omega)) hw5 hm5 rfl rfl rfl (m_ar so55 hw5 rfl) rfl (fun hc6 hw6 hm6 => ?_)
                refine m_ias sa63 rfl hw6 hm6 (by omega) (by omega) (by decide) (by decide) (fun hc7 hw7 hm7 => ?_)
                refine f_aln 1 rfl hL1 rfl ?_
                refine f_s [.ref 55, .ref 55] rfl rfl ?_
                refine m_gfi so55 ((ps.length : Int)) rfl hw7 hm7 rfl hO.2.1 ?_
                refine f_s [fi (1), fi ((ps.length : Int)), .ref 55] rfl rfl ?_
                refine f_iadd rfl ?_
                refine m_pf so55 rfl hw7 hm7 rfl rfl (by omega) (fun hc8 hw8 hm8 => ?_)
                refine f_goto rfl ?_
                refine f_aln 1 rfl hL1 rfl ?_
                refine m_gfi so55 (p + 1) rfl hw8 hm8 rfl rfl ?_
                refine f_bipush (n := -9) rfl (by decide) ?_
                refine f_ic rfl (by omega) (by omega) (fun _ => ?_) (fun c_9 => absurd (show ¬ (p + 1 : Int) = (-9 : Int) from (by omega)) c_9)
                refine f_aln 1 rfl hL1 rfl ?_
                refine m_gfi so55 (p + 1) rfl hw8 hm8 rfl rfl ?_
                have e : pr ln t (n + 1) p ns ps = (p + 1, ns, ps) := by rw [pr_s, if_neg (by omega), if_neg hN, if_pos hP, if_neg (by omega), hFv]
                rw [e]
                exact f_ret1 rfl ⟨hw8, by rfl, fun z => absurd z (by show ¬ p + 1 = -9; omega)⟩
        · skip
          have ht := hM.2.2.2.1 p
          refine f_aln 0 rfl hL rfl ?_
          refine m_gfr so55 rfl hw rfl (by decide) ?_
          refine f_aln 0 rfl hL rfl ?_
          refine m_gfi so55 (p) rfl hw hm rfl h14 ?_
          refine m_ia sa64 (t p) rfl hw hm (by omega) (by omega) (by decide) (hM.2.2.1 p (by omega) (by omega)) ?_
          refine f_bipush (n := 78) rfl (by decide) ?_
          refine f_ic rfl (by omega) (by omega) (fun _ => ?_) (fun c_9 => absurd (show ¬ (t p : Int) = (78 : Int) from hN) c_9)
          refine f_aln 0 rfl hL rfl ?_
          refine m_gfr so55 rfl hw rfl (by decide) ?_
          refine f_aln 0 rfl hL rfl ?_
          refine m_gfi so55 (p) rfl hw hm rfl h14 ?_
          refine m_ia sa64 (t p) rfl hw hm (by omega) (by omega) (by decide) (hM.2.2.1 p (by omega) (by omega)) ?_
          refine f_bipush (n := 80) rfl (by decide) ?_
          refine f_ic rfl (by omega) (by omega) (fun _ => ?_) (fun c_9 => absurd (show ¬ (t p : Int) = (80 : Int) from hP) c_9)
          refine f_aln 0 rfl hL rfl ?_
          refine f_aln 0 rfl hL rfl ?_
          refine m_gfi so55 (p) rfl hw hm rfl h14 ?_
          refine m_pf so55 rfl hw hm rfl rfl (by omega) (fun hc1 hw1 hm1 => ?_)
          refine f_goto rfl ?_
          refine f_aln 0 rfl hL rfl ?_
          refine m_gfi so55 (p) rfl hw1 hm1 rfl rfl ?_
          refine f_bipush (n := -9) rfl (by decide) ?_
          refine f_ic rfl (by omega) (by omega) (fun _ => ?_) (fun c_9 => absurd (show ¬ (p : Int) = (-9 : Int) from (by omega)) c_9)
          refine f_aln 0 rfl hL rfl ?_
          refine m_gfi so55 (p) rfl hw1 hm1 rfl rfl ?_
          have e : pr ln t (n + 1) p ns ps = (p, ns, ps) := by rw [pr_s, if_neg (by omega), if_neg hN, if_neg hP]
          rw [e]
          exact f_ret1 rfl ⟨hw1, by rfl, fun z => absurd z (by show ¬ p = -9; omega)⟩
