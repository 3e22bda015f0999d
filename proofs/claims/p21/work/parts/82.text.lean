/-! the text: what is read there, and how the class reads it -/
def tx (m : Nat → Nat → Int) (i : Int) : Int := if 0 ≤ i ∧ i < m 1 1 then m 2 i.toNat else 0
def tw (m : Nat → Nat → Int) : Prop := (0 ≤ m 1 1 ∧ m 1 1 ≤ 40) ∧ ∀ i : Nat, i < 40 → 0 ≤ m 2 i ∧ m 2 i ≤ 65535
theorem tx_in {m : Nat → Nat → Int} {i : Int} (h : 0 ≤ i ∧ i < m 1 1) : tx m i = m 2 i.toNat := if_pos h
theorem tx_out {m : Nat → Nat → Int} {i : Int} (h : ¬ (0 ≤ i ∧ i < m 1 1)) : tx m i = 0 := if_neg h
theorem tx_r {m : Nat → Nat → Int} (hT : tw m) (i : Int) : 0 ≤ tx m i ∧ tx m i ≤ 65535 := by
  by_cases h : 0 ≤ i ∧ i < m 1 1
  · rw [tx_in h]
    exact hT.2 _ (by have := hT.1; omega)
  · rw [tx_out h]
    decide
def bI (b : Bool) : Int := match b with
  | true => 1
  | false => 0
theorem bI_r (b : Bool) : -2147483648 ≤ bI b ∧ bI b ≤ 2147483647 := by cases b <;> decide
theorem bI_01 (b : Bool) : bI b = 0 ∨ bI b = 1 := by cases b <;> decide
theorem bI0 {b : Bool} (h : bI b = 0) : b = false := by cases b with
  | false => rfl
  | true => exact absurd h (by decide)
theorem bI1 {b : Bool} (h : ¬ bI b = 0) : b = true := by cases b with
  | true => rfl
  | false => exact absurd rfl h
def isW (ln : Int) (t : Int → Int) (p a b : Int) : Bool := decide (p < ln ∧ (t p < a ∨ b < t p))
def nF (ln : Int) (t : Int → Int) (p : Int) : Int := if isW ln t (p + 1) 48 51 = true then p + 1 else if isW ln t (p + 2) 49 57 = true then p + 2 else if ln < p + 3 then ln else -9
def pF (ln : Int) (t : Int → Int) (p : Int) : Int := if isW ln t (p + 1) 48 57 = true then p + 1 else if isW ln t (p + 2) (t (p + 1)) 57 = true then p + 2 else if isW ln t (p + 3) 97 112 = true then p + 3 else if ln < p + 4 then ln else -9
abbrev pNs : Type := List (Int × Int)
abbrev pPs : Type := List (Int × Int × Int)
/-- the parts from place p on: the fault (or -9), names and people -/
noncomputable def pr (ln : Int) (t : Int → Int) (n : Nat) : Int → pNs → pPs → Int × pNs × pPs := Nat.rec (motive := fun _ => Int → pNs → pPs → Int × pNs × pPs) (fun _ ns ps => (-9, ns, ps)) (fun _ ih p ns ps =>
  if ln ≤ p then (-9, ns, ps)
  else if t p = 78 then (if 4 ≤ ns.length then (p, ns, ps) else if nF ln t p = -9 then ih (p + 3) (ns ++ [(t (p + 1) - 48, t (p + 2) - 48)]) ps else (nF ln t p, ns, ps))
  else if t p = 80 then (if 5 ≤ ps.length then (p, ns, ps) else if pF ln t p = -9 then ih (p + 4) ns (ps ++ [(t (p + 1) - 48, t (p + 2) - 48, t (p + 3) - 97)]) else (pF ln t p, ns, ps))
  else (p, ns, ps)) n
theorem pr_s (ln : Int) (t : Int → Int) (n : Nat) (p : Int) (ns : pNs) (ps : pPs) : pr ln t (n + 1) p ns ps = (if ln ≤ p then (-9, ns, ps)
  else if t p = 78 then (if 4 ≤ ns.length then (p, ns, ps) else if nF ln t p = -9 then pr ln t n (p + 3) (ns ++ [(t (p + 1) - 48, t (p + 2) - 48)]) ps else (nF ln t p, ns, ps))
  else if t p = 80 then (if 5 ≤ ps.length then (p, ns, ps) else if pF ln t p = -9 then pr ln t n (p + 4) ns (ps ++ [(t (p + 1) - 48, t (p + 2) - 48, t (p + 3) - 97)]) else (pF ln t p, ns, ps))
  else (p, ns, ps)) := rfl
theorem nF_r {m : Nat → Nat → Int} (hT : tw m) {p : Int} (h1 : 0 ≤ p) (h2 : p < m 1 1) : -9 ≤ nF (m 1 1) (tx m) p ∧ nF (m 1 1) (tx m) p ≤ 100 := by
  have := hT.1
  unfold nF
  split
  · omega
  · split
    · omega
    · split <;> omega
theorem pF_r {m : Nat → Nat → Int} (hT : tw m) {p : Int} (h1 : 0 ≤ p) (h2 : p < m 1 1) : -9 ≤ pF (m 1 1) (tx m) p ∧ pF (m 1 1) (tx m) p ≤ 100 := by
  have := hT.1
  unfold pF
  split
  · omega
  · split
    · omega
    · split
      · omega
      · split <;> omega
theorem t20 {m : Nat → Nat → Int} (hT : tw m) {x : Int} (rx : -2147483648 ≤ x ∧ x ≤ 2147483647) : h_M 20 [.ref 1, fi (x)] m (some (fi (tx m x))) m := h_M_of (R := ev_r20) rfl (fun hc hw hm => by
  have hL : f_L (lv_args 0 [.ref 1, fi (x)]) [(0, .ref 1), (1, fi (x))] := f_L_of rfl
  generalize lv_args 0 [.ref 1, fi (x)] = L at hL
  show x_W none (3, 0, 2, 1, 9, 0, 0, 0, 0, ev_t20) 0 L [] hc 0 0 _
  have hl := hT.1
  refine f_iln 1 rfl hL rfl ?_
  refine f_if rfl (by omega) (fun c1 => ?_) (fun c1 => ?_)
  · have c1 : (x : Int) < (0 : Int) := c1
    refine f_s [fi (0)] rfl rfl ?_
    exact m_ret3 rfl (by decide) ⟨by rw [tx_out (by omega)], hw, hm⟩
  · have c1 : ¬ ((x : Int) < (0 : Int)) := c1
    refine f_iln 1 rfl hL rfl ?_
    refine f_aln 0 rfl hL rfl ?_
    refine m_gfi so1 (m 1 1) rfl hw hm rfl rfl ?_
    refine f_ic rfl (by omega) (by omega) (fun c2 => ?_) (fun c2 => ?_)
    · have c2 : (m 1 1 : Int) ≤ (x : Int) := c2
      refine f_s [fi (0)] rfl rfl ?_
      exact m_ret3 rfl (by decide) ⟨by rw [tx_out (by omega)], hw, hm⟩
    · have c2 : ¬ ((m 1 1 : Int) ≤ (x : Int)) := c2
      refine f_iln 1 rfl hL rfl ?_
      refine f_aln 0 rfl hL rfl ?_
      refine m_gfr so1 rfl hw rfl (by decide) ?_
      refine m_al sa2 rfl hw (by decide) ?_
      refine f_ic rfl (by omega) (by omega) (fun c_9 => absurd (show (40 : Int) ≤ (x : Int) from c_9) (by omega)) (fun _ => ?_)
      refine f_aln 0 rfl hL rfl ?_
      refine m_gfr so1 rfl hw rfl (by decide) ?_
      refine f_iln 1 rfl hL rfl ?_
      refine m_ca sa2 (m 2 (x).toNat) rfl hw hm (by omega) (by omega) (by decide) rfl ?_
      refine f_goto rfl ?_
      exact m_ret3 rfl (hT.2 _ (by omega)) ⟨by rw [tx_in (by omega)], hw, hm⟩)
theorem t21 {m : Nat → Nat → Int} (hT : tw m) {p a b : Int} (rp : -2147483648 ≤ p ∧ p ≤ 2147483647) (ra : 0 ≤ a ∧ a ≤ 65535) (rb : 0 ≤ b ∧ b ≤ 65535) : h_M 21 [.ref 1, fi (p), fi (a), fi (b)] m (some (fi (bI (isW (m 1 1) (tx m) p a b)))) m := h_M_of (R := ev_r21) rfl (fun hc hw hm => by
  have hL : f_L (lv_args 0 [.ref 1, fi (p), fi (a), fi (b)]) [(0, .ref 1), (1, fi (p)), (2, fi (a)), (3, fi (b))] := f_L_of rfl
  generalize lv_args 0 [.ref 1, fi (p), fi (a), fi (b)] = L at hL
  show x_W none (2, 0, 4, 3, 9, 1, 21, 0, 0, ev_t21) 0 L [] hc 0 0 _
  have hl := hT.1
  have ht := tx_r hT p
  refine f_iln 1 rfl hL rfl ?_
  refine f_aln 0 rfl hL rfl ?_
  refine m_gfi so1 (m 1 1) rfl hw hm rfl rfl ?_
  refine f_ic rfl (by omega) (by omega) (fun c1 => ?_) (fun c1 => ?_)
  · have c1 : (m 1 1 : Int) ≤ (p : Int) := c1
    refine f_s [fi (0)] rfl rfl ?_
    exact f_ret2 rfl (Or.inl rfl) ⟨by rw [show isW (m 1 1) (tx m) p a b = false from decide_eq_false (by omega)]; rfl, hw, hm⟩
  · have c1 : ¬ ((m 1 1 : Int) ≤ (p : Int)) := c1
    refine f_aln 0 rfl hL rfl ?_
    refine f_iln 1 rfl hL rfl ?_
    refine m_k1 (t20 hT rp) hw hm rfl rfl rfl (m_ar so1 hw rfl) rfl (fun hc1 hw1 hm1 => ?_)
    refine f_iln 2 rfl hL rfl ?_
    refine f_ic rfl (by omega) (by omega) (fun c2 => ?_) (fun c2 => ?_)
    · have c2 : (tx m p : Int) < (a : Int) := c2
      refine f_s [fi (1)] rfl rfl ?_
      refine f_goto rfl ?_
      exact f_ret2 rfl (Or.inr rfl) ⟨by rw [show isW (m 1 1) (tx m) p a b = true from decide_eq_true (by omega)]; rfl, hw1, hm1⟩
    · have c2 : ¬ ((tx m p : Int) < (a : Int)) := c2
      refine f_aln 0 rfl hL rfl ?_
      refine f_iln 1 rfl hL rfl ?_
      refine m_k1 (t20 hT rp) hw1 hm1 rfl rfl rfl (m_ar so1 hw1 rfl) rfl (fun hc2 hw2 hm2 => ?_)
      refine f_iln 3 rfl hL rfl ?_
      refine f_ic rfl (by omega) (by omega) (fun c3 => ?_) (fun c3 => ?_)
      · have c3 : (tx m p : Int) ≤ (b : Int) := c3
        refine f_s [fi (0)] rfl rfl ?_
        exact f_ret2 rfl (Or.inl rfl) ⟨by rw [show isW (m 1 1) (tx m) p a b = false from decide_eq_false (by omega)]; rfl, hw2, hm2⟩
      · have c3 : ¬ ((tx m p : Int) ≤ (b : Int)) := c3
        refine f_s [fi (1)] rfl rfl ?_
        refine f_goto rfl ?_
        exact f_ret2 rfl (Or.inr rfl) ⟨by rw [show isW (m 1 1) (tx m) p a b = true from decide_eq_true (by omega)]; rfl, hw2, hm2⟩)
theorem t22 {m : Nat → Nat → Int} (hT : tw m) {p : Int} (p1 : 0 ≤ p) (p2 : p ≤ 100) : h_M 22 [.ref 1, fi (p)] m (some (fi (nF (m 1 1) (tx m) p))) m := h_M_of (R := ev_r22) rfl (fun hc hw hm => by
  have hL : f_L (lv_args 0 [.ref 1, fi (p)]) [(0, .ref 1), (1, fi (p))] := f_L_of rfl
  generalize lv_args 0 [.ref 1, fi (p)] = L at hL
  show x_W none (1, 0, 2, 1, 9, 2, 44, 0, 0, ev_t22) 0 L [] hc 0 0 _
  have hl := hT.1
  refine f_aln 0 rfl hL rfl ?_
  refine f_iln 1 rfl hL rfl ?_
  refine f_s [fi (1), fi (p), .ref 1] rfl rfl ?_
  refine f_iadd rfl ?_
  refine f_bipush (n := 48) rfl (by decide) ?_
  refine f_bipush (n := 51) rfl (by decide) ?_
  refine m_k1 (t21 hT (by omega) (by decide) (by decide)) hw hm rfl rfl rfl (m_ar so1 hw rfl) rfl (fun hc1 hw1 hm1 => ?_)
  refine f_if rfl (bI_r _) (fun c1 => ?_) (fun c1 => ?_)
  · have c1 : (bI (isW (m 1 1) (tx m) (p + 1) 48 51) : Int) = (0 : Int) := c1
    refine f_aln 0 rfl hL rfl ?_
    refine f_iln 1 rfl hL rfl ?_
    refine f_s [fi (2), fi (p), .ref 1] rfl rfl ?_
    refine f_iadd rfl ?_
    refine f_bipush (n := 49) rfl (by decide) ?_
    refine f_bipush (n := 57) rfl (by decide) ?_
    refine m_k1 (t21 hT (by omega) (by decide) (by decide)) hw1 hm1 rfl rfl rfl (m_ar so1 hw1 rfl) rfl (fun hc2 hw2 hm2 => ?_)
    refine f_if rfl (bI_r _) (fun c2 => ?_) (fun c2 => ?_)
    · have c2 : (bI (isW (m 1 1) (tx m) (p + 2) 49 57) : Int) = (0 : Int) := c2
      refine f_iln 1 rfl hL rfl ?_
      refine f_s [fi (3), fi (p)] rfl rfl ?_
      refine f_iadd rfl ?_
      refine f_aln 0 rfl hL rfl ?_
      refine m_gfi so1 (m 1 1) rfl hw2 hm2 rfl rfl ?_
      refine f_ic rfl (by omega) (by omega) (fun c3 => ?_) (fun c3 => ?_)
      · have c3 : (p + 3 : Int) ≤ (m 1 1 : Int) := c3
        refine f_bipush (n := -9) rfl (by decide) ?_
        exact f_ret1 rfl ⟨by unfold nF; rw [if_neg (by rw [bI0 c1]; decide), if_neg (by rw [bI0 c2]; decide), if_neg (by omega)], hw2, hm2⟩
      · have c3 : ¬ ((p + 3 : Int) ≤ (m 1 1 : Int)) := c3
        refine f_aln 0 rfl hL rfl ?_
        refine m_gfi so1 (m 1 1) rfl hw2 hm2 rfl rfl ?_
        refine f_goto rfl ?_
        exact f_ret1 rfl ⟨by unfold nF; rw [if_neg (by rw [bI0 c1]; decide), if_neg (by rw [bI0 c2]; decide), if_pos (by omega)], hw2, hm2⟩
    · have c2 : ¬ ((bI (isW (m 1 1) (tx m) (p + 2) 49 57) : Int) = (0 : Int)) := c2
      refine f_iln 1 rfl hL rfl ?_
      refine f_s [fi (2), fi (p)] rfl rfl ?_
      refine f_iadd rfl ?_
      exact f_ret1 rfl ⟨by unfold nF; rw [if_neg (by rw [bI0 c1]; decide), if_pos (bI1 c2)], hw2, hm2⟩
  · have c1 : ¬ ((bI (isW (m 1 1) (tx m) (p + 1) 48 51) : Int) = (0 : Int)) := c1
    refine f_iln 1 rfl hL rfl ?_
    refine f_s [fi (1), fi (p)] rfl rfl ?_
    refine f_iadd rfl ?_
    exact f_ret1 rfl ⟨by unfold nF; rw [if_pos (bI1 c1)], hw1, hm1⟩)
theorem t23 {m : Nat → Nat → Int} (hT : tw m) {p : Int} (p1 : 0 ≤ p) (p2 : p ≤ 100) : h_M 23 [.ref 1, fi (p)] m (some (fi (pF (m 1 1) (tx m) p))) m := h_M_of (R := ev_r23) rfl (fun hc hw hm => by
  have hL : f_L (lv_args 0 [.ref 1, fi (p)]) [(0, .ref 1), (1, fi (p))] := f_L_of rfl
  generalize lv_args 0 [.ref 1, fi (p)] = L at hL
  show x_W none (1, 0, 2, 1, 9, 2, 44, 0, 0, ev_t23) 0 L [] hc 0 0 _
  have hl := hT.1
  refine f_aln 0 rfl hL rfl ?_
  refine f_iln 1 rfl hL rfl ?_
  refine f_s [fi (1), fi (p), .ref 1] rfl rfl ?_
  refine f_iadd rfl ?_
  refine f_bipush (n := 48) rfl (by decide) ?_
  refine f_bipush (n := 57) rfl (by decide) ?_
  refine m_k1 (t21 hT (by omega) (by decide) (by decide)) hw hm rfl rfl rfl (m_ar so1 hw rfl) rfl (fun hc1 hw1 hm1 => ?_)
  refine f_if rfl (bI_r _) (fun c1 => ?_) (fun c1 => ?_)
  · have c1 : (bI (isW (m 1 1) (tx m) (p + 1) 48 57) : Int) = (0 : Int) := c1
    refine f_aln 0 rfl hL rfl ?_
    refine f_iln 1 rfl hL rfl ?_
    refine f_s [fi (2), fi (p), .ref 1] rfl rfl ?_
    refine f_iadd rfl ?_
    refine f_aln 0 rfl hL rfl ?_
    refine f_iln 1 rfl hL rfl ?_
    refine f_s [fi (1), fi (p), .ref 1, fi (p + 2), .ref 1] rfl rfl ?_
    refine f_iadd rfl ?_
    refine m_k1 (t20 hT (by omega)) hw1 hm1 rfl rfl rfl (m_ar so1 hw1 rfl) rfl (fun hc2 hw2 hm2 => ?_)
    refine f_bipush (n := 57) rfl (by decide) ?_
    refine m_k1 (t21 hT (by omega) (tx_r hT _) (by decide)) hw2 hm2 rfl rfl rfl (m_ar so1 hw2 rfl) rfl (fun hc3 hw3 hm3 => ?_)
    refine f_if rfl (bI_r _) (fun c2 => ?_) (fun c2 => ?_)
    · have c2 : (bI (isW (m 1 1) (tx m) (p + 2) (tx m (p + 1)) 57) : Int) = (0 : Int) := c2
      refine f_aln 0 rfl hL rfl ?_
      refine f_iln 1 rfl hL rfl ?_
      refine f_s [fi (3), fi (p), .ref 1] rfl rfl ?_
      refine f_iadd rfl ?_
      refine f_bipush (n := 97) rfl (by decide) ?_
      refine f_bipush (n := 112) rfl (by decide) ?_
      refine m_k1 (t21 hT (by omega) (by decide) (by decide)) hw3 hm3 rfl rfl rfl (m_ar so1 hw3 rfl) rfl (fun hc4 hw4 hm4 => ?_)
      refine f_if rfl (bI_r _) (fun c3 => ?_) (fun c3 => ?_)
      · have c3 : (bI (isW (m 1 1) (tx m) (p + 3) 97 112) : Int) = (0 : Int) := c3
        refine f_iln 1 rfl hL rfl ?_
        refine f_s [fi (4), fi (p)] rfl rfl ?_
        refine f_iadd rfl ?_
        refine f_aln 0 rfl hL rfl ?_
        refine m_gfi so1 (m 1 1) rfl hw4 hm4 rfl rfl ?_
        refine f_ic rfl (by omega) (by omega) (fun c4 => ?_) (fun c4 => ?_)
        · have c4 : (p + 4 : Int) ≤ (m 1 1 : Int) := c4
          refine f_bipush (n := -9) rfl (by decide) ?_
          exact f_ret1 rfl ⟨by unfold pF; rw [if_neg (by rw [bI0 c1]; decide), if_neg (by rw [bI0 c2]; decide), if_neg (by rw [bI0 c3]; decide), if_neg (by omega)], hw4, hm4⟩
        · have c4 : ¬ ((p + 4 : Int) ≤ (m 1 1 : Int)) := c4
          refine f_aln 0 rfl hL rfl ?_
          refine m_gfi so1 (m 1 1) rfl hw4 hm4 rfl rfl ?_
          refine f_goto rfl ?_
          exact f_ret1 rfl ⟨by unfold pF; rw [if_neg (by rw [bI0 c1]; decide), if_neg (by rw [bI0 c2]; decide), if_neg (by rw [bI0 c3]; decide), if_pos (by omega)], hw4, hm4⟩
      · have c3 : ¬ ((bI (isW (m 1 1) (tx m) (p + 3) 97 112) : Int) = (0 : Int)) := c3
        refine f_iln 1 rfl hL rfl ?_
        refine f_s [fi (3), fi (p)] rfl rfl ?_
        refine f_iadd rfl ?_
        exact f_ret1 rfl ⟨by unfold pF; rw [if_neg (by rw [bI0 c1]; decide), if_neg (by rw [bI0 c2]; decide), if_pos (bI1 c3)], hw4, hm4⟩
    · have c2 : ¬ ((bI (isW (m 1 1) (tx m) (p + 2) (tx m (p + 1)) 57) : Int) = (0 : Int)) := c2
      refine f_iln 1 rfl hL rfl ?_
      refine f_s [fi (2), fi (p)] rfl rfl ?_
      refine f_iadd rfl ?_
      exact f_ret1 rfl ⟨by unfold pF; rw [if_neg (by rw [bI0 c1]; decide), if_pos (bI1 c2)], hw3, hm3⟩
  · have c1 : ¬ ((bI (isW (m 1 1) (tx m) (p + 1) 48 57) : Int) = (0 : Int)) := c1
    refine f_iln 1 rfl hL rfl ?_
    refine f_s [fi (1), fi (p)] rfl rfl ?_
    refine f_iadd rfl ?_
    exact f_ret1 rfl ⟨by unfold pF; rw [if_pos (bI1 c1)], hw1, hm1⟩)
set_option maxHeartbeats 4000000 in
theorem t24_loop {m : Nat → Nat → Int} (hT : tw m) : ∀ (n : Nat) (p : Int) (ns : pNs) (ps : pPs) (hc : ev_H) (L : ev_L), y_in yGw hc → gi hc = m → 1 ≤ p → p ≤ 44 → (m 1 1 - p).toNat ≤ n → ns.length ≤ 4 → ps.length ≤ 5 → f_L L [(3, fi (p)), (2, fi ((ps.length : Int))), (1, fi ((ns.length : Int))), (0, .ref 1)] → x_W none (1, 0, 7, 0, 9, 3, 65, 0, 0, ev_t24) 18 L [] hc 0 0 (fun r h' => r = some (fi (pr (m 1 1) (tx m) n p ns ps).1) ∧ y_in yGw h' ∧ gi h' = m) := by
  have hl := hT.1
  intro n
  induction n with
  | zero =>
    intro p ns ps hc L hw hm p1 p2 hn l1 l2 hL
    refine f_iln 0 rfl hL rfl ?_
    refine f_aln 3 rfl hL rfl ?_
    refine m_gfi so1 (m 1 1) rfl hw hm rfl rfl ?_
    refine f_ic rfl (by omega) (by omega) (fun _ => ?_) (fun c_9 => absurd (show (m 1 1 : Int) ≤ (p : Int) from (by omega)) c_9)
    refine f_bipush (n := -9) rfl (by decide) ?_
    exact f_ret1 rfl ⟨rfl, hw, hm⟩
  | succ n ih =>
    intro p ns ps hc L hw hm p1 p2 hn l1 l2 hL
    have ht := tx_r hT p
    refine f_iln 0 rfl hL rfl ?_
    refine f_aln 3 rfl hL rfl ?_
    refine m_gfi so1 (m 1 1) rfl hw hm rfl rfl ?_
    refine f_ic rfl (by omega) (by omega) (fun c0 => ?_) (fun c0 => ?_)
    · have c0 : m 1 1 ≤ p := c0
      refine f_bipush (n := -9) rfl (by decide) ?_
      exact f_ret1 rfl ⟨by rw [pr_s, if_pos c0], hw, hm⟩
    · have c0 : ¬ m 1 1 ≤ p := c0
      by_cases hN : tx m p = 78
      · by_cases hF4 : 4 ≤ ns.length
        · skip
          refine f_aln 3 rfl hL rfl ?_
          refine f_iln 0 rfl hL rfl ?_
          refine m_k1 (t20 hT (by omega)) hw hm rfl rfl rfl (m_ar so1 hw rfl) rfl (fun hc1 hw1 hm1 => ?_)
          refine f_bipush (n := 78) rfl (by decide) ?_
          refine f_ic rfl (by omega) (by omega) (fun c_9 => absurd (show ¬ (tx m p : Int) = (78 : Int) from c_9) (fun z => z hN)) (fun _ => ?_)
          refine f_s [fi (1)] rfl rfl ?_
          refine f_goto rfl ?_
          refine f_ist [(4, fi (1)), (3, fi (p)), (2, fi ((ps.length : Int))), (1, fi ((ns.length : Int))), (0, .ref 1)] rfl (by decide) hL rfl (fun L1 hL1 => ?_)
          refine f_aln 4 rfl hL1 rfl ?_
          refine f_iln 1 rfl hL1 rfl ?_
          refine m_k1 (t20 hT (by omega)) hw1 hm1 rfl rfl rfl (m_ar so1 hw1 rfl) rfl (fun hc2 hw2 hm2 => ?_)
          refine f_bipush (n := 80) rfl (by decide) ?_
          refine f_ic rfl (by omega) (by omega) (fun _ => ?_) (fun c_9 => absurd (show ¬ (tx m p : Int) = (80 : Int) from (show ¬ tx m p = 80 by omega)) c_9)
          refine f_s [fi (0)] rfl rfl ?_
          refine f_ist [(5, fi (0)), (4, fi (1)), (3, fi (p)), (2, fi ((ps.length : Int))), (1, fi ((ns.length : Int))), (0, .ref 1)] rfl (by decide) hL1 rfl (fun L2 hL2 => ?_)
          refine f_iln 4 rfl hL2 rfl ?_
          refine f_il 1 rfl hL2 rfl ?_
          refine f_if rfl (by decide) (fun c_9 => absurd (show (1 : Int) = (0 : Int) from c_9) (by decide)) (fun _ => ?_)
          refine f_s [fi (1), fi ((ns.length : Int))] rfl rfl ?_
          refine f_goto rfl ?_
          refine f_iadd rfl ?_
          refine f_istn [(1, fi (((ns.length : Int)) + 1)), (5, fi (0)), (4, fi (1)), (3, fi (p)), (2, fi ((ps.length : Int))), (0, .ref 1)] rfl (by decide) hL2 rfl (fun L3 hL3 => ?_)
          refine f_iln 4 rfl hL3 rfl ?_
          refine f_il 1 rfl hL3 rfl ?_
          refine f_if rfl (by decide) (fun _ => ?_) (fun c_9 => absurd (show (0 : Int) = (0 : Int) from (by decide)) c_9)
          refine f_s [fi (0), fi ((ps.length : Int))] rfl rfl ?_
          refine f_iadd rfl ?_
          refine f_istn [(2, fi (((ps.length : Int)) + 0)), (1, fi (((ns.length : Int)) + 1)), (5, fi (0)), (4, fi (1)), (3, fi (p)), (0, .ref 1)] rfl (by decide) hL3 rfl (fun L4 hL4 => ?_)
          refine f_il 3 rfl hL4 rfl ?_
          refine f_if rfl (by decide) (fun _ => ?_) (fun c_9 => absurd (show ¬ (1 : Int) = (0 : Int) from (by decide)) c_9)
          refine f_iln 1 rfl hL4 rfl ?_
          refine f_s [fi (4), fi (((ns.length : Int)) + 1)] rfl rfl ?_
          refine f_ic rfl (by omega) (by omega) (fun _ => ?_) (fun c_9 => absurd (show (4 : Int) < (((ns.length : Int)) + 1 : Int) from (by omega)) c_9)
          refine f_iln 4 rfl hL4 rfl ?_
          exact f_ret1 rfl ⟨by rw [pr_s, if_neg (by omega), if_pos hN, if_pos (by omega)], hw2, hm2⟩
        · have rF := nF_r hT (p := p) (by omega) (by omega)
          by_cases hF : nF (m 1 1) (tx m) p = -9
          · skip
            refine f_aln 3 rfl hL rfl ?_
            refine f_iln 0 rfl hL rfl ?_
            refine m_k1 (t20 hT (by omega)) hw hm rfl rfl rfl (m_ar so1 hw rfl) rfl (fun hc1 hw1 hm1 => ?_)
            refine f_bipush (n := 78) rfl (by decide) ?_
            refine f_ic rfl (by omega) (by omega) (fun c_9 => absurd (show ¬ (tx m p : Int) = (78 : Int) from c_9) (fun z => z hN)) (fun _ => ?_)
            refine f_s [fi (1)] rfl rfl ?_
            refine f_goto rfl ?_
            refine f_ist [(4, fi (1)), (3, fi (p)), (2, fi ((ps.length : Int))), (1, fi ((ns.length : Int))), (0, .ref 1)] rfl (by decide) hL rfl (fun L1 hL1 => ?_)
            refine f_aln 4 rfl hL1 rfl ?_
            refine f_iln 1 rfl hL1 rfl ?_
            refine m_k1 (t20 hT (by omega)) hw1 hm1 rfl rfl rfl (m_ar so1 hw1 rfl) rfl (fun hc2 hw2 hm2 => ?_)
            refine f_bipush (n := 80) rfl (by decide) ?_
            refine f_ic rfl (by omega) (by omega) (fun _ => ?_) (fun c_9 => absurd (show ¬ (tx m p : Int) = (80 : Int) from (show ¬ tx m p = 80 by omega)) c_9)
            refine f_s [fi (0)] rfl rfl ?_
            refine f_ist [(5, fi (0)), (4, fi (1)), (3, fi (p)), (2, fi ((ps.length : Int))), (1, fi ((ns.length : Int))), (0, .ref 1)] rfl (by decide) hL1 rfl (fun L2 hL2 => ?_)
            refine f_iln 4 rfl hL2 rfl ?_
            refine f_il 1 rfl hL2 rfl ?_
            refine f_if rfl (by decide) (fun c_9 => absurd (show (1 : Int) = (0 : Int) from c_9) (by decide)) (fun _ => ?_)
            refine f_s [fi (1), fi ((ns.length : Int))] rfl rfl ?_
            refine f_goto rfl ?_
            refine f_iadd rfl ?_
            refine f_istn [(1, fi (((ns.length : Int)) + 1)), (5, fi (0)), (4, fi (1)), (3, fi (p)), (2, fi ((ps.length : Int))), (0, .ref 1)] rfl (by decide) hL2 rfl (fun L3 hL3 => ?_)
            refine f_iln 4 rfl hL3 rfl ?_
            refine f_il 1 rfl hL3 rfl ?_
            refine f_if rfl (by decide) (fun _ => ?_) (fun c_9 => absurd (show (0 : Int) = (0 : Int) from (by decide)) c_9)
            refine f_s [fi (0), fi ((ps.length : Int))] rfl rfl ?_
            refine f_iadd rfl ?_
            refine f_istn [(2, fi (((ps.length : Int)) + 0)), (1, fi (((ns.length : Int)) + 1)), (5, fi (0)), (4, fi (1)), (3, fi (p)), (0, .ref 1)] rfl (by decide) hL3 rfl (fun L4 hL4 => ?_)
            refine f_il 3 rfl hL4 rfl ?_
            refine f_if rfl (by decide) (fun _ => ?_) (fun c_9 => absurd (show ¬ (1 : Int) = (0 : Int) from (by decide)) c_9)
            refine f_iln 1 rfl hL4 rfl ?_
            refine f_s [fi (4), fi (((ns.length : Int)) + 1)] rfl rfl ?_
            refine f_ic rfl (by omega) (by omega) (fun c_9 => absurd (show (4 : Int) < (((ns.length : Int)) + 1 : Int) from c_9) (by omega)) (fun _ => ?_)
            refine f_iln 0 rfl hL4 rfl ?_
            refine f_s [fi (5), fi (((ps.length : Int)) + 0)] rfl rfl ?_
            refine f_ic rfl (by omega) (by omega) (fun _ => ?_) (fun c_9 => absurd (show (((ps.length : Int)) + 0 : Int) ≤ (5 : Int) from (by omega)) c_9)
            refine f_il 3 rfl hL4 rfl ?_
            refine f_if rfl (by decide) (fun c_9 => absurd (show (1 : Int) = (0 : Int) from c_9) (by decide)) (fun _ => ?_)
            refine f_aln 5 rfl hL4 rfl ?_
            refine f_iln 4 rfl hL4 rfl ?_
            refine m_k1 (t22 hT (by omega) (by omega)) hw2 hm2 rfl rfl rfl (m_ar so1 hw2 rfl) rfl (fun hc3 hw3 hm3 => ?_)
            refine f_goto rfl ?_
            refine f_ist [(6, fi (nF (m 1 1) (tx m) p)), (2, fi (((ps.length : Int)) + 0)), (1, fi (((ns.length : Int)) + 1)), (5, fi (0)), (4, fi (1)), (3, fi (p)), (0, .ref 1)] rfl (by decide) hL4 rfl (fun L5 hL5 => ?_)
            refine f_il 0 rfl hL5 rfl ?_
            refine f_bipush (n := -9) rfl (by decide) ?_
            refine f_ic rfl (by omega) (by omega) (fun _ => ?_) (fun c_9 => absurd (show (nF (m 1 1) (tx m) p : Int) = (-9 : Int) from hF) c_9)
            refine f_iln 5 rfl hL5 rfl ?_
            refine f_aln 6 rfl hL5 rfl ?_
            refine f_iln 5 rfl hL5 rfl ?_
            refine m_k1 (t20 hT (by omega)) hw3 hm3 rfl rfl rfl (m_ar so1 hw3 rfl) rfl (fun hc4 hw4 hm4 => ?_)
            refine f_bipush (n := 78) rfl (by decide) ?_
            refine f_ic rfl (by omega) (by omega) (fun c_9 => absurd (show ¬ (tx m p : Int) = (78 : Int) from c_9) (fun z => z hN)) (fun _ => ?_)
            refine f_s [fi (3), fi (p)] rfl rfl ?_
            refine f_goto rfl ?_
            refine f_iadd rfl ?_
            refine f_istn [(3, fi (p + 3)), (6, fi (nF (m 1 1) (tx m) p)), (2, fi (((ps.length : Int)) + 0)), (1, fi (((ns.length : Int)) + 1)), (5, fi (0)), (4, fi (1)), (0, .ref 1)] rfl (by decide) hL5 rfl (fun L6 hL6 => ?_)
            refine f_goto rfl ?_
            have e1 : ((ns ++ [(tx m (p + 1) - 48, tx m (p + 2) - 48)]).length : Int) = (ns.length : Int) + 1 := by rw [List.length_append]; rfl
            have e2 : ((ps).length : Int) = (ps.length : Int) + 0 := by omega
            have := ih (p + 3) (ns ++ [(tx m (p + 1) - 48, tx m (p + 2) - 48)]) (ps) hc4 _ hw4 hm4 (by omega) (by omega) (by omega) (by omega) (by omega) (by rw [e1, e2]; exact hL6.sel [0, 2, 3, 6] rfl)
            rw [pr_s, if_neg (by omega), if_pos hN, if_neg (by omega), if_pos hF]
            exact this
          · skip
            refine f_aln 3 rfl hL rfl ?_
            refine f_iln 0 rfl hL rfl ?_
            refine m_k1 (t20 hT (by omega)) hw hm rfl rfl rfl (m_ar so1 hw rfl) rfl (fun hc1 hw1 hm1 => ?_)
            refine f_bipush (n := 78) rfl (by decide) ?_
            refine f_ic rfl (by omega) (by omega) (fun c_9 => absurd (show ¬ (tx m p : Int) = (78 : Int) from c_9) (fun z => z hN)) (fun _ => ?_)
            refine f_s [fi (1)] rfl rfl ?_
            refine f_goto rfl ?_
            refine f_ist [(4, fi (1)), (3, fi (p)), (2, fi ((ps.length : Int))), (1, fi ((ns.length : Int))), (0, .ref 1)] rfl (by decide) hL rfl (fun L1 hL1 => ?_)
            refine f_aln 4 rfl hL1 rfl ?_
            refine f_iln 1 rfl hL1 rfl ?_
            refine m_k1 (t20 hT (by omega)) hw1 hm1 rfl rfl rfl (m_ar so1 hw1 rfl) rfl (fun hc2 hw2 hm2 => ?_)
            refine f_bipush (n := 80) rfl (by decide) ?_
            refine f_ic rfl (by omega) (by omega) (fun _ => ?_) (fun c_9 => absurd (show ¬ (tx m p : Int) = (80 : Int) from (show ¬ tx m p = 80 by omega)) c_9)
            refine f_s [fi (0)] rfl rfl ?_
            refine f_ist [(5, fi (0)), (4, fi (1)), (3, fi (p)), (2, fi ((ps.length : Int))), (1, fi ((ns.length : Int))), (0, .ref 1)] rfl (by decide) hL1 rfl (fun L2 hL2 => ?_)
            refine f_iln 4 rfl hL2 rfl ?_
            refine f_il 1 rfl hL2 rfl ?_
            refine f_if rfl (by decide) (fun c_9 => absurd (show (1 : Int) = (0 : Int) from c_9) (by decide)) (fun _ => ?_)
            refine f_s [fi (1), fi ((ns.length : Int))] rfl rfl ?_
            refine f_goto rfl ?_
            refine f_iadd rfl ?_
            refine f_istn [(1, fi (((ns.length : Int)) + 1)), (5, fi (0)), (4, fi (1)), (3, fi (p)), (2, fi ((ps.length : Int))), (0, .ref 1)] rfl (by decide) hL2 rfl (fun L3 hL3 => ?_)
            refine f_iln 4 rfl hL3 rfl ?_
            refine f_il 1 rfl hL3 rfl ?_
            refine f_if rfl (by decide) (fun _ => ?_) (fun c_9 => absurd (show (0 : Int) = (0 : Int) from (by decide)) c_9)
            refine f_s [fi (0), fi ((ps.length : Int))] rfl rfl ?_
            refine f_iadd rfl ?_
            refine f_istn [(2, fi (((ps.length : Int)) + 0)), (1, fi (((ns.length : Int)) + 1)), (5, fi (0)), (4, fi (1)), (3, fi (p)), (0, .ref 1)] rfl (by decide) hL3 rfl (fun L4 hL4 => ?_)
            refine f_il 3 rfl hL4 rfl ?_
            refine f_if rfl (by decide) (fun _ => ?_) (fun c_9 => absurd (show ¬ (1 : Int) = (0 : Int) from (by decide)) c_9)
            refine f_iln 1 rfl hL4 rfl ?_
            refine f_s [fi (4), fi (((ns.length : Int)) + 1)] rfl rfl ?_
            refine f_ic rfl (by omega) (by omega) (fun c_9 => absurd (show (4 : Int) < (((ns.length : Int)) + 1 : Int) from c_9) (by omega)) (fun _ => ?_)
            refine f_iln 0 rfl hL4 rfl ?_
            refine f_s [fi (5), fi (((ps.length : Int)) + 0)] rfl rfl ?_
            refine f_ic rfl (by omega) (by omega) (fun _ => ?_) (fun c_9 => absurd (show (((ps.length : Int)) + 0 : Int) ≤ (5 : Int) from (by omega)) c_9)
            refine f_il 3 rfl hL4 rfl ?_
            refine f_if rfl (by decide) (fun c_9 => absurd (show (1 : Int) = (0 : Int) from c_9) (by decide)) (fun _ => ?_)
            refine f_aln 5 rfl hL4 rfl ?_
            refine f_iln 4 rfl hL4 rfl ?_
            refine m_k1 (t22 hT (by omega) (by omega)) hw2 hm2 rfl rfl rfl (m_ar so1 hw2 rfl) rfl (fun hc3 hw3 hm3 => ?_)
            refine f_goto rfl ?_
            refine f_ist [(6, fi (nF (m 1 1) (tx m) p)), (2, fi (((ps.length : Int)) + 0)), (1, fi (((ns.length : Int)) + 1)), (5, fi (0)), (4, fi (1)), (3, fi (p)), (0, .ref 1)] rfl (by decide) hL4 rfl (fun L5 hL5 => ?_)
            refine f_il 0 rfl hL5 rfl ?_
            refine f_bipush (n := -9) rfl (by decide) ?_
            refine f_ic rfl (by omega) (by omega) (fun c_9 => absurd (show (nF (m 1 1) (tx m) p : Int) = (-9 : Int) from c_9) hF) (fun _ => ?_)
            refine f_il 0 rfl hL5 rfl ?_
            exact f_ret1 rfl ⟨by rw [pr_s, if_neg (by omega), if_pos hN, if_neg (by omega), if_neg hF], hw3, hm3⟩
      · by_cases hP : tx m p = 80
        · by_cases hF5 : 5 ≤ ps.length
          · skip
            refine f_aln 3 rfl hL rfl ?_
            refine f_iln 0 rfl hL rfl ?_
            refine m_k1 (t20 hT (by omega)) hw hm rfl rfl rfl (m_ar so1 hw rfl) rfl (fun hc1 hw1 hm1 => ?_)
            refine f_bipush (n := 78) rfl (by decide) ?_
            refine f_ic rfl (by omega) (by omega) (fun _ => ?_) (fun c_9 => absurd (show ¬ (tx m p : Int) = (78 : Int) from (show ¬ tx m p = 78 by omega)) c_9)
            refine f_s [fi (0)] rfl rfl ?_
            refine f_ist [(4, fi (0)), (3, fi (p)), (2, fi ((ps.length : Int))), (1, fi ((ns.length : Int))), (0, .ref 1)] rfl (by decide) hL rfl (fun L1 hL1 => ?_)
            refine f_aln 4 rfl hL1 rfl ?_
            refine f_iln 1 rfl hL1 rfl ?_
            refine m_k1 (t20 hT (by omega)) hw1 hm1 rfl rfl rfl (m_ar so1 hw1 rfl) rfl (fun hc2 hw2 hm2 => ?_)
            refine f_bipush (n := 80) rfl (by decide) ?_
            refine f_ic rfl (by omega) (by omega) (fun c_9 => absurd (show ¬ (tx m p : Int) = (80 : Int) from c_9) (fun z => z hP)) (fun _ => ?_)
            refine f_s [fi (1)] rfl rfl ?_
            refine f_goto rfl ?_
            refine f_ist [(5, fi (1)), (4, fi (0)), (3, fi (p)), (2, fi ((ps.length : Int))), (1, fi ((ns.length : Int))), (0, .ref 1)] rfl (by decide) hL1 rfl (fun L2 hL2 => ?_)
            refine f_iln 4 rfl hL2 rfl ?_
            refine f_il 1 rfl hL2 rfl ?_
            refine f_if rfl (by decide) (fun _ => ?_) (fun c_9 => absurd (show (0 : Int) = (0 : Int) from (by decide)) c_9)
            refine f_s [fi (0), fi ((ns.length : Int))] rfl rfl ?_
            refine f_iadd rfl ?_
            refine f_istn [(1, fi (((ns.length : Int)) + 0)), (5, fi (1)), (4, fi (0)), (3, fi (p)), (2, fi ((ps.length : Int))), (0, .ref 1)] rfl (by decide) hL2 rfl (fun L3 hL3 => ?_)
            refine f_iln 4 rfl hL3 rfl ?_
            refine f_il 1 rfl hL3 rfl ?_
            refine f_if rfl (by decide) (fun c_9 => absurd (show (1 : Int) = (0 : Int) from c_9) (by decide)) (fun _ => ?_)
            refine f_s [fi (1), fi ((ps.length : Int))] rfl rfl ?_
            refine f_goto rfl ?_
            refine f_iadd rfl ?_
            refine f_istn [(2, fi (((ps.length : Int)) + 1)), (1, fi (((ns.length : Int)) + 0)), (5, fi (1)), (4, fi (0)), (3, fi (p)), (0, .ref 1)] rfl (by decide) hL3 rfl (fun L4 hL4 => ?_)
            refine f_il 3 rfl hL4 rfl ?_
            refine f_if rfl (by decide) (fun c_9 => absurd (show ¬ (0 : Int) = (0 : Int) from c_9) (by decide)) (fun _ => ?_)
            refine f_il 2 rfl hL4 rfl ?_
            refine f_if rfl (by decide) (fun c_9 => absurd (show (1 : Int) = (0 : Int) from c_9) (by decide)) (fun _ => ?_)
            refine f_iln 1 rfl hL4 rfl ?_
            refine f_s [fi (4), fi (((ns.length : Int)) + 0)] rfl rfl ?_
            refine f_ic rfl (by omega) (by omega) (fun c_9 => absurd (show (4 : Int) < (((ns.length : Int)) + 0 : Int) from c_9) (by omega)) (fun _ => ?_)
            refine f_iln 0 rfl hL4 rfl ?_
            refine f_s [fi (5), fi (((ps.length : Int)) + 1)] rfl rfl ?_
            refine f_ic rfl (by omega) (by omega) (fun c_9 => absurd (show (((ps.length : Int)) + 1 : Int) ≤ (5 : Int) from c_9) (by omega)) (fun _ => ?_)
            refine f_iln 4 rfl hL4 rfl ?_
            exact f_ret1 rfl ⟨by rw [pr_s, if_neg (by omega), if_neg (show ¬ tx m p = 78 by omega), if_pos hP, if_pos (by omega)], hw2, hm2⟩
          · have rF := pF_r hT (p := p) (by omega) (by omega)
            by_cases hF : pF (m 1 1) (tx m) p = -9
            · skip
              refine f_aln 3 rfl hL rfl ?_
              refine f_iln 0 rfl hL rfl ?_
              refine m_k1 (t20 hT (by omega)) hw hm rfl rfl rfl (m_ar so1 hw rfl) rfl (fun hc1 hw1 hm1 => ?_)
              refine f_bipush (n := 78) rfl (by decide) ?_
              refine f_ic rfl (by omega) (by omega) (fun _ => ?_) (fun c_9 => absurd (show ¬ (tx m p : Int) = (78 : Int) from (show ¬ tx m p = 78 by omega)) c_9)
              refine f_s [fi (0)] rfl rfl ?_
              refine f_ist [(4, fi (0)), (3, fi (p)), (2, fi ((ps.length : Int))), (1, fi ((ns.length : Int))), (0, .ref 1)] rfl (by decide) hL rfl (fun L1 hL1 => ?_)
              refine f_aln 4 rfl hL1 rfl ?_
              refine f_iln 1 rfl hL1 rfl ?_
              refine m_k1 (t20 hT (by omega)) hw1 hm1 rfl rfl rfl (m_ar so1 hw1 rfl) rfl (fun hc2 hw2 hm2 => ?_)
              refine f_bipush (n := 80) rfl (by decide) ?_
              refine f_ic rfl (by omega) (by omega) (fun c_9 => absurd (show ¬ (tx m p : Int) = (80 : Int) from c_9) (fun z => z hP)) (fun _ => ?_)
              refine f_s [fi (1)] rfl rfl ?_
              refine f_goto rfl ?_
              refine f_ist [(5, fi (1)), (4, fi (0)), (3, fi (p)), (2, fi ((ps.length : Int))), (1, fi ((ns.length : Int))), (0, .ref 1)] rfl (by decide) hL1 rfl (fun L2 hL2 => ?_)
              refine f_iln 4 rfl hL2 rfl ?_
              refine f_il 1 rfl hL2 rfl ?_
              refine f_if rfl (by decide) (fun _ => ?_) (fun c_9 => absurd (show (0 : Int) = (0 : Int) from (by decide)) c_9)
              refine f_s [fi (0), fi ((ns.length : Int))] rfl rfl ?_
              refine f_iadd rfl ?_
              refine f_istn [(1, fi (((ns.length : Int)) + 0)), (5, fi (1)), (4, fi (0)), (3, fi (p)), (2, fi ((ps.length : Int))), (0, .ref 1)] rfl (by decide) hL2 rfl (fun L3 hL3 => ?_)
              refine f_iln 4 rfl hL3 rfl ?_
              refine f_il 1 rfl hL3 rfl ?_
              refine f_if rfl (by decide) (fun c_9 => absurd (show (1 : Int) = (0 : Int) from c_9) (by decide)) (fun _ => ?_)
              refine f_s [fi (1), fi ((ps.length : Int))] rfl rfl ?_
              refine f_goto rfl ?_
              refine f_iadd rfl ?_
              refine f_istn [(2, fi (((ps.length : Int)) + 1)), (1, fi (((ns.length : Int)) + 0)), (5, fi (1)), (4, fi (0)), (3, fi (p)), (0, .ref 1)] rfl (by decide) hL3 rfl (fun L4 hL4 => ?_)
              refine f_il 3 rfl hL4 rfl ?_
              refine f_if rfl (by decide) (fun c_9 => absurd (show ¬ (0 : Int) = (0 : Int) from c_9) (by decide)) (fun _ => ?_)
              refine f_il 2 rfl hL4 rfl ?_
              refine f_if rfl (by decide) (fun c_9 => absurd (show (1 : Int) = (0 : Int) from c_9) (by decide)) (fun _ => ?_)
              refine f_iln 1 rfl hL4 rfl ?_
              refine f_s [fi (4), fi (((ns.length : Int)) + 0)] rfl rfl ?_
              refine f_ic rfl (by omega) (by omega) (fun c_9 => absurd (show (4 : Int) < (((ns.length : Int)) + 0 : Int) from c_9) (by omega)) (fun _ => ?_)
              refine f_iln 0 rfl hL4 rfl ?_
              refine f_s [fi (5), fi (((ps.length : Int)) + 1)] rfl rfl ?_
              refine f_ic rfl (by omega) (by omega) (fun _ => ?_) (fun c_9 => absurd (show (((ps.length : Int)) + 1 : Int) ≤ (5 : Int) from (by omega)) c_9)
              refine f_il 3 rfl hL4 rfl ?_
              refine f_if rfl (by decide) (fun _ => ?_) (fun c_9 => absurd (show (0 : Int) = (0 : Int) from (by decide)) c_9)
              refine f_aln 5 rfl hL4 rfl ?_
              refine f_iln 4 rfl hL4 rfl ?_
              refine m_k1 (t23 hT (by omega) (by omega)) hw2 hm2 rfl rfl rfl (m_ar so1 hw2 rfl) rfl (fun hc3 hw3 hm3 => ?_)
              refine f_ist [(6, fi (pF (m 1 1) (tx m) p)), (2, fi (((ps.length : Int)) + 1)), (1, fi (((ns.length : Int)) + 0)), (5, fi (1)), (4, fi (0)), (3, fi (p)), (0, .ref 1)] rfl (by decide) hL4 rfl (fun L5 hL5 => ?_)
              refine f_il 0 rfl hL5 rfl ?_
              refine f_bipush (n := -9) rfl (by decide) ?_
              refine f_ic rfl (by omega) (by omega) (fun _ => ?_) (fun c_9 => absurd (show (pF (m 1 1) (tx m) p : Int) = (-9 : Int) from hF) c_9)
              refine f_iln 5 rfl hL5 rfl ?_
              refine f_aln 6 rfl hL5 rfl ?_
              refine f_iln 5 rfl hL5 rfl ?_
              refine m_k1 (t20 hT (by omega)) hw3 hm3 rfl rfl rfl (m_ar so1 hw3 rfl) rfl (fun hc4 hw4 hm4 => ?_)
              refine f_bipush (n := 78) rfl (by decide) ?_
              refine f_ic rfl (by omega) (by omega) (fun _ => ?_) (fun c_9 => absurd (show ¬ (tx m p : Int) = (78 : Int) from (show ¬ tx m p = 78 by omega)) c_9)
              refine f_s [fi (4), fi (p)] rfl rfl ?_
              refine f_iadd rfl ?_
              refine f_istn [(3, fi (p + 4)), (6, fi (pF (m 1 1) (tx m) p)), (2, fi (((ps.length : Int)) + 1)), (1, fi (((ns.length : Int)) + 0)), (5, fi (1)), (4, fi (0)), (0, .ref 1)] rfl (by decide) hL5 rfl (fun L6 hL6 => ?_)
              refine f_goto rfl ?_
              have e1 : ((ns).length : Int) = (ns.length : Int) + 0 := by omega
              have e2 : ((ps ++ [(tx m (p + 1) - 48, tx m (p + 2) - 48, tx m (p + 3) - 97)]).length : Int) = (ps.length : Int) + 1 := by rw [List.length_append]; rfl
              have := ih (p + 4) (ns) (ps ++ [(tx m (p + 1) - 48, tx m (p + 2) - 48, tx m (p + 3) - 97)]) hc4 _ hw4 hm4 (by omega) (by omega) (by omega) (by omega) (by omega) (by rw [e1, e2]; exact hL6.sel [0, 2, 3, 6] rfl)
              rw [pr_s, if_neg (by omega), if_neg (show ¬ tx m p = 78 by omega), if_pos hP, if_neg (by omega), if_pos hF]
              exact this
            · skip
              refine f_aln 3 rfl hL rfl ?_
              refine f_iln 0 rfl hL rfl ?_
              refine m_k1 (t20 hT (by omega)) hw hm rfl rfl rfl (m_ar so1 hw rfl) rfl (fun hc1 hw1 hm1 => ?_)
              refine f_bipush (n := 78) rfl (by decide) ?_
              refine f_ic rfl (by omega) (by omega) (fun _ => ?_) (fun c_9 => absurd (show ¬ (tx m p : Int) = (78 : Int) from (show ¬ tx m p = 78 by omega)) c_9)
              refine f_s [fi (0)] rfl rfl ?_
              refine f_ist [(4, fi (0)), (3, fi (p)), (2, fi ((ps.length : Int))), (1, fi ((ns.length : Int))), (0, .ref 1)] rfl (by decide) hL rfl (fun L1 hL1 => ?_)
              refine f_aln 4 rfl hL1 rfl ?_
              refine f_iln 1 rfl hL1 rfl ?_
              refine m_k1 (t20 hT (by omega)) hw1 hm1 rfl rfl rfl (m_ar so1 hw1 rfl) rfl (fun hc2 hw2 hm2 => ?_)
              refine f_bipush (n := 80) rfl (by decide) ?_
              refine f_ic rfl (by omega) (by omega) (fun c_9 => absurd (show ¬ (tx m p : Int) = (80 : Int) from c_9) (fun z => z hP)) (fun _ => ?_)
              refine f_s [fi (1)] rfl rfl ?_
              refine f_goto rfl ?_
              refine f_ist [(5, fi (1)), (4, fi (0)), (3, fi (p)), (2, fi ((ps.length : Int))), (1, fi ((ns.length : Int))), (0, .ref 1)] rfl (by decide) hL1 rfl (fun L2 hL2 => ?_)
              refine f_iln 4 rfl hL2 rfl ?_
              refine f_il 1 rfl hL2 rfl ?_
              refine f_if rfl (by decide) (fun _ => ?_) (fun c_9 => absurd (show (0 : Int) = (0 : Int) from (by decide)) c_9)
              refine f_s [fi (0), fi ((ns.length : Int))] rfl rfl ?_
              refine f_iadd rfl ?_
              refine f_istn [(1, fi (((ns.length : Int)) + 0)), (5, fi (1)), (4, fi (0)), (3, fi (p)), (2, fi ((ps.length : Int))), (0, .ref 1)] rfl (by decide) hL2 rfl (fun L3 hL3 => ?_)
              refine f_iln 4 rfl hL3 rfl ?_
              refine f_il 1 rfl hL3 rfl ?_
              refine f_if rfl (by decide) (fun c_9 => absurd (show (1 : Int) = (0 : Int) from c_9) (by decide)) (fun _ => ?_)
              refine f_s [fi (1), fi ((ps.length : Int))] rfl rfl ?_
              refine f_goto rfl ?_
              refine f_iadd rfl ?_
              refine f_istn [(2, fi (((ps.length : Int)) + 1)), (1, fi (((ns.length : Int)) + 0)), (5, fi (1)), (4, fi (0)), (3, fi (p)), (0, .ref 1)] rfl (by decide) hL3 rfl (fun L4 hL4 => ?_)
              refine f_il 3 rfl hL4 rfl ?_
              refine f_if rfl (by decide) (fun c_9 => absurd (show ¬ (0 : Int) = (0 : Int) from c_9) (by decide)) (fun _ => ?_)
              refine f_il 2 rfl hL4 rfl ?_
              refine f_if rfl (by decide) (fun c_9 => absurd (show (1 : Int) = (0 : Int) from c_9) (by decide)) (fun _ => ?_)
              refine f_iln 1 rfl hL4 rfl ?_
              refine f_s [fi (4), fi (((ns.length : Int)) + 0)] rfl rfl ?_
              refine f_ic rfl (by omega) (by omega) (fun c_9 => absurd (show (4 : Int) < (((ns.length : Int)) + 0 : Int) from c_9) (by omega)) (fun _ => ?_)
              refine f_iln 0 rfl hL4 rfl ?_
              refine f_s [fi (5), fi (((ps.length : Int)) + 1)] rfl rfl ?_
              refine f_ic rfl (by omega) (by omega) (fun _ => ?_) (fun c_9 => absurd (show (((ps.length : Int)) + 1 : Int) ≤ (5 : Int) from (by omega)) c_9)
              refine f_il 3 rfl hL4 rfl ?_
              refine f_if rfl (by decide) (fun _ => ?_) (fun c_9 => absurd (show (0 : Int) = (0 : Int) from (by decide)) c_9)
              refine f_aln 5 rfl hL4 rfl ?_
              refine f_iln 4 rfl hL4 rfl ?_
              refine m_k1 (t23 hT (by omega) (by omega)) hw2 hm2 rfl rfl rfl (m_ar so1 hw2 rfl) rfl (fun hc3 hw3 hm3 => ?_)
              refine f_ist [(6, fi (pF (m 1 1) (tx m) p)), (2, fi (((ps.length : Int)) + 1)), (1, fi (((ns.length : Int)) + 0)), (5, fi (1)), (4, fi (0)), (3, fi (p)), (0, .ref 1)] rfl (by decide) hL4 rfl (fun L5 hL5 => ?_)
              refine f_il 0 rfl hL5 rfl ?_
              refine f_bipush (n := -9) rfl (by decide) ?_
              refine f_ic rfl (by omega) (by omega) (fun c_9 => absurd (show (pF (m 1 1) (tx m) p : Int) = (-9 : Int) from c_9) hF) (fun _ => ?_)
              refine f_il 0 rfl hL5 rfl ?_
              exact f_ret1 rfl ⟨by rw [pr_s, if_neg (by omega), if_neg (show ¬ tx m p = 78 by omega), if_pos hP, if_neg (by omega), if_neg hF], hw3, hm3⟩
        · skip
          refine f_aln 3 rfl hL rfl ?_
          refine f_iln 0 rfl hL rfl ?_
          refine m_k1 (t20 hT (by omega)) hw hm rfl rfl rfl (m_ar so1 hw rfl) rfl (fun hc1 hw1 hm1 => ?_)
          refine f_bipush (n := 78) rfl (by decide) ?_
          refine f_ic rfl (by omega) (by omega) (fun _ => ?_) (fun c_9 => absurd (show ¬ (tx m p : Int) = (78 : Int) from hN) c_9)
          refine f_s [fi (0)] rfl rfl ?_
          refine f_ist [(4, fi (0)), (3, fi (p)), (2, fi ((ps.length : Int))), (1, fi ((ns.length : Int))), (0, .ref 1)] rfl (by decide) hL rfl (fun L1 hL1 => ?_)
          refine f_aln 4 rfl hL1 rfl ?_
          refine f_iln 1 rfl hL1 rfl ?_
          refine m_k1 (t20 hT (by omega)) hw1 hm1 rfl rfl rfl (m_ar so1 hw1 rfl) rfl (fun hc2 hw2 hm2 => ?_)
          refine f_bipush (n := 80) rfl (by decide) ?_
          refine f_ic rfl (by omega) (by omega) (fun _ => ?_) (fun c_9 => absurd (show ¬ (tx m p : Int) = (80 : Int) from hP) c_9)
          refine f_s [fi (0)] rfl rfl ?_
          refine f_ist [(5, fi (0)), (4, fi (0)), (3, fi (p)), (2, fi ((ps.length : Int))), (1, fi ((ns.length : Int))), (0, .ref 1)] rfl (by decide) hL1 rfl (fun L2 hL2 => ?_)
          refine f_iln 4 rfl hL2 rfl ?_
          refine f_il 1 rfl hL2 rfl ?_
          refine f_if rfl (by decide) (fun _ => ?_) (fun c_9 => absurd (show (0 : Int) = (0 : Int) from (by decide)) c_9)
          refine f_s [fi (0), fi ((ns.length : Int))] rfl rfl ?_
          refine f_iadd rfl ?_
          refine f_istn [(1, fi (((ns.length : Int)) + 0)), (5, fi (0)), (4, fi (0)), (3, fi (p)), (2, fi ((ps.length : Int))), (0, .ref 1)] rfl (by decide) hL2 rfl (fun L3 hL3 => ?_)
          refine f_iln 4 rfl hL3 rfl ?_
          refine f_il 1 rfl hL3 rfl ?_
          refine f_if rfl (by decide) (fun _ => ?_) (fun c_9 => absurd (show (0 : Int) = (0 : Int) from (by decide)) c_9)
          refine f_s [fi (0), fi ((ps.length : Int))] rfl rfl ?_
          refine f_iadd rfl ?_
          refine f_istn [(2, fi (((ps.length : Int)) + 0)), (1, fi (((ns.length : Int)) + 0)), (5, fi (0)), (4, fi (0)), (3, fi (p)), (0, .ref 1)] rfl (by decide) hL3 rfl (fun L4 hL4 => ?_)
          refine f_il 3 rfl hL4 rfl ?_
          refine f_if rfl (by decide) (fun c_9 => absurd (show ¬ (0 : Int) = (0 : Int) from c_9) (by decide)) (fun _ => ?_)
          refine f_il 2 rfl hL4 rfl ?_
          refine f_if rfl (by decide) (fun _ => ?_) (fun c_9 => absurd (show (0 : Int) = (0 : Int) from (by decide)) c_9)
          refine f_iln 4 rfl hL4 rfl ?_
          exact f_ret1 rfl ⟨by rw [pr_s, if_neg (by omega), if_neg hN, if_neg hP], hw2, hm2⟩
noncomputable def tF (m : Nat → Nat → Int) : Int := if tx m 0 = 72 then (pr (m 1 1) (tx m) 40 1 [] []).1 else 0
theorem t24 {m : Nat → Nat → Int} (hT : tw m) : h_M 24 [.ref 1] m (some (fi (if tx m 0 = 72 then (pr (m 1 1) (tx m) 40 1 [] []).1 else 0))) m := h_M_of (R := ev_r24) rfl (fun hc hw hm => by
  have hL : f_L (lv_args 0 [.ref 1]) [(0, .ref 1)] := f_L_of rfl
  generalize lv_args 0 [.ref 1] = L at hL
  show x_W none (1, 0, 7, 0, 9, 3, 65, 0, 0, ev_t24) 0 L [] hc 0 0 _
  have hl := hT.1
  have ht := tx_r hT 0
  refine f_aln 0 rfl hL rfl ?_
  refine f_s [fi (0), .ref 1] rfl rfl ?_
  refine m_k1 (t20 hT (by decide)) hw hm rfl rfl rfl (m_ar so1 hw rfl) rfl (fun hc1 hw1 hm1 => ?_)
  refine f_bipush (n := 72) rfl (by decide) ?_
  refine f_ic rfl (by omega) (by omega) (fun c1 => ?_) (fun c1 => ?_)
  · have c1 : (tx m 0 : Int) = (72 : Int) := c1
    refine f_s [fi (0)] rfl rfl ?_
    refine f_istn [(1, fi (0)), (0, .ref 1)] rfl (by decide) hL rfl (fun L1 hL1 => ?_)
    refine f_s [fi (0)] rfl rfl ?_
    refine f_istn [(2, fi (0)), (1, fi (0)), (0, .ref 1)] rfl (by decide) hL1 rfl (fun L2 hL2 => ?_)
    refine f_s [fi (1)] rfl rfl ?_
    refine f_istn [(3, fi (1)), (2, fi (0)), (1, fi (0)), (0, .ref 1)] rfl (by decide) hL2 rfl (fun L3 hL3 => ?_)
    rw [if_pos c1]
    exact t24_loop hT 40 1 [] [] hc1 _ hw1 hm1 (by decide) (by decide) (by omega) (by decide) (by decide) (hL3.sel [0, 1, 2, 3] rfl)
  · have c1 : ¬ ((tx m 0 : Int) = (72 : Int)) := c1
    refine f_s [fi (0)] rfl rfl ?_
    exact f_ret1 rfl ⟨by rw [if_neg c1], hw1, hm1⟩)
theorem t25 {m : Nat → Nat → Int} (hT : tw m) : h_M 25 [.ref 0] m (some (fi (tF m))) m := h_M_of (R := ev_r25) rfl (fun hc hw hm => by
  have hL : f_L (lv_args 0 [.ref 0]) [(0, .ref 0)] := f_L_of rfl
  generalize lv_args 0 [.ref 0] = L at hL
  show x_W none (1, 0, 1, 0, 10, 4, 91, 0, 0, ev_t25) 0 L [] hc 0 0 _
  refine f_aln 0 rfl hL rfl ?_
  refine m_gfr so0 rfl hw rfl (by decide) ?_
  refine m_k1 (t24 hT) hw hm rfl rfl rfl (m_ar so1 hw rfl) rfl (fun hc1 hw1 hm1 => ?_)
  exact f_ret1 rfl ⟨rfl, hw1, hm1⟩)
