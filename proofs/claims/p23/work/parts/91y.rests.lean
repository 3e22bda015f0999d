/-! what a hall may tell; rests of both -/
def PW (m : Nat → Nat → Int) : Prop := (∀ k : Nat, k < 4 → (k : Int) < m 3 5 → (0 ≤ m 4 k ∧ m 4 k ≤ 3) ∧ (1 ≤ m 5 k ∧ m 5 k ≤ 9)) ∧ (∀ p : Nat, p < 5 → (p : Int) < m 3 6 → (0 ≤ m 6 p ∧ m 6 p ≤ 9) ∧ (0 ≤ m 7 p ∧ m 7 p ≤ 9) ∧ (0 ≤ m 8 p ∧ m 8 p ≤ 15))
def PW_FP : yMd := [(3, 5, 6), (4, 0, 3), (5, 0, 3), (6, 0, 4), (7, 0, 4), (8, 0, 4)]
theorem PW_keep {m m' : Nat → Nat → Int} (h : g_agree PW_FP m m') (hW : PW m) : PW m' := by
  have e35 : m' 3 5 = m 3 5 := h.at 0 rfl 5 (by decide) (by decide)
  have e36 : m' 3 6 = m 3 6 := h.at 0 rfl 6 (by decide) (by decide)
  refine ⟨fun k hk hk2 => ?_, fun p hp hp2 => ?_⟩
  · rw [e35] at hk2
    rw [h.at 1 rfl k (Nat.zero_le _) (by show k ≤ 3; omega), h.at 2 rfl k (Nat.zero_le _) (by show k ≤ 3; omega)]
    exact hW.1 k hk hk2
  · rw [e36] at hp2
    rw [h.at 3 rfl p (Nat.zero_le _) (by show p ≤ 4; omega), h.at 4 rfl p (Nat.zero_le _) (by show p ≤ 4; omega), h.at 5 rfl p (Nat.zero_le _) (by show p ≤ 4; omega)]
    exact hW.2 p hp hp2
theorem PW_hall {hc hc1 hc2 : ev_H} (un1 : y_un yct38_0.2.2 hc hc1) (un2 : y_un yct39_0.2.2 hc1 hc2) (hW : PW (gi hc)) (h : (gi hc1 = gi hc ∧ y_un yct27_0.2.2 hc1 hc2) ∨ ∃ ns ps hcC hcM, pV ns ps ∧ cP (gi hcC) ns ps ∧ y_un yct31_0.2.2 hc hcC ∧ gi hc1 = hallC (gi hcC) ∧ pOK (gi hcM) ns ps ∧ y_un yct27_0.2.2 hc1 hcM ∧ gi hc2 = hallM (gi hcM)) : PW (gi hc2) := by
  have k := g_dis_ok (FP := PW_FP) (by decide) un2
  rcases h with ⟨e1, u⟩ | ⟨ns, ps, hcC, hcM, hV, c1, u1, e1, p1, u2, e2⟩
  · rw [e1] at k
    exact PW_keep k hW
  · refine PW_keep k ?_
    obtain ⟨c35, c36, cn, cp⟩ := c1
    obtain ⟨v1, v2, v3, v4⟩ := hV
    rw [e1]
    refine ⟨fun q hq hq2 => ?_, fun p hp hp2 => ?_⟩
    · have hq2 : (q : Int) < gi hcC 3 5 := hq2
      rw [c35] at hq2
      have hl : q < ns.length := by omega
      obtain ⟨y1, y2⟩ := cn q ns[q] (List.getElem?_eq_getElem hl)
      show (0 ≤ gi hcC 4 q ∧ gi hcC 4 q ≤ 3) ∧ (1 ≤ gi hcC 5 q ∧ gi hcC 5 q ≤ 9)
      rw [y1, y2]
      exact v3 _ (List.getElem_mem hl)
    · have hp2 : (p : Int) < gi hcC 3 6 := hp2
      rw [c36] at hp2
      have hl : p < ps.length := by omega
      obtain ⟨y1, y2, y3⟩ := cp p ps[p] (List.getElem?_eq_getElem hl)
      show (0 ≤ gi hcC 6 p ∧ gi hcC 6 p ≤ 9) ∧ (0 ≤ gi hcC 7 p ∧ gi hcC 7 p ≤ 9) ∧ (0 ≤ gi hcC 8 p ∧ gi hcC 8 p ≤ 15)
      rw [y1, y2, y3]
      exact v4 _ (List.getElem_mem hl)
def gB (w bid : Int) (has : Bool) : Int := if has = true then w - bid else if 0 < bid then -1 else 0
theorem gB_t {w bid : Int} {has : Bool} (h : has = true) : gB w bid has = w - bid := if_pos h
theorem gB_p {w bid : Int} {has : Bool} (h : has = false) (hb : 0 < bid) : gB w bid has = -1 := by unfold gB; rw [h, if_neg (by decide), if_pos hb]
theorem gB_z {w bid : Int} {has : Bool} (h : has = false) (hb : ¬ 0 < bid) : gB w bid has = 0 := by unfold gB; rw [h, if_neg (by decide), if_neg hb]
theorem gB_r {w bid : Int} {has : Bool} (hw : 0 ≤ w ∧ w ≤ 9) (hb : 0 ≤ bid ∧ bid ≤ 4) : -2147483648 ≤ gB w bid has ∧ gB w bid has ≤ 2147483647 := by
  unfold gB
  split
  · omega
  · split <;> decide
def g1 (w : Int) (f1 f2 : Bool) (a b : Int) : Int := gB w a (f1 && (decide (b ≤ a) || !f2))
def g2 (w : Int) (f1 f2 : Bool) (a b : Int) : Int := gB w b (f2 && (decide (a < b) || !f1))
def rT (w : Int) (f1 f2 : Bool) (a b e : Int) : Bool := decide (g1 w f1 f2 e b ≤ g1 w f1 f2 a b ∧ g2 w f1 f2 a e ≤ g2 w f1 f2 a b)
def rR5 (_ : Int) (_ _ : Bool) (_ _ : Int) : Bool := true
def rR4 (w : Int) (f1 f2 : Bool) (a b : Int) : Bool := rT w f1 f2 a b 4 && rR5 w f1 f2 a b
def rR3 (w : Int) (f1 f2 : Bool) (a b : Int) : Bool := rT w f1 f2 a b 3 && rR4 w f1 f2 a b
def rR2 (w : Int) (f1 f2 : Bool) (a b : Int) : Bool := rT w f1 f2 a b 2 && rR3 w f1 f2 a b
def rR1 (w : Int) (f1 f2 : Bool) (a b : Int) : Bool := rT w f1 f2 a b 1 && rR2 w f1 f2 a b
def rR0 (w : Int) (f1 f2 : Bool) (a b : Int) : Bool := rT w f1 f2 a b 0 && rR1 w f1 f2 a b
def lC : List (Bool × Int) → Int → Int
  | [], b => b
  | (r, _) :: t, b => lC t (b + bI r)
def lF : List (Bool × Int) → Int
  | [] => -9
  | (r, v) :: t => if r = true then v else lF t
def lM : List (Bool × Int) → Int → Int → Int
  | [], _, f => f
  | (r, v) :: t, b, f => if r = true then lM t (b + 1) (if b = 0 then v else f) else lM t b f
theorem lM_p : ∀ (l : List (Bool × Int)) (b f : Int), 0 < b → lM l b f = f
  | [], _, _, _ => rfl
  | (r, v) :: t, b, f, h => by
    show (if r = true then lM t (b + 1) (if b = 0 then v else f) else lM t b f) = f
    split
    · rw [if_neg (by omega)]; exact lM_p t (b + 1) f (by omega)
    · exact lM_p t b f h
theorem lM_0 : ∀ (l : List (Bool × Int)), lM l 0 (-9) = lF l
  | [] => rfl
  | (r, v) :: t => by
    show (if r = true then lM t (0 + 1) (if (0 : Int) = 0 then v else -9) else lM t 0 (-9)) = (if r = true then v else lF t)
    split
    · rw [if_pos rfl]; exact lM_p t 1 v (by decide)
    · exact lM_0 t
def rl25 (_ : Int) (_ _ : Bool) : List (Bool × Int) := []
def rl24 (w : Int) (f1 f2 : Bool) : List (Bool × Int) := (rR0 w f1 f2 4 4, 44) :: rl25 w f1 f2
def rl23 (w : Int) (f1 f2 : Bool) : List (Bool × Int) := (rR0 w f1 f2 4 3, 43) :: rl24 w f1 f2
def rl22 (w : Int) (f1 f2 : Bool) : List (Bool × Int) := (rR0 w f1 f2 4 2, 42) :: rl23 w f1 f2
def rl21 (w : Int) (f1 f2 : Bool) : List (Bool × Int) := (rR0 w f1 f2 4 1, 41) :: rl22 w f1 f2
def rl20 (w : Int) (f1 f2 : Bool) : List (Bool × Int) := (rR0 w f1 f2 4 0, 40) :: rl21 w f1 f2
def rl19 (w : Int) (f1 f2 : Bool) : List (Bool × Int) := (rR0 w f1 f2 3 4, 34) :: rl20 w f1 f2
def rl18 (w : Int) (f1 f2 : Bool) : List (Bool × Int) := (rR0 w f1 f2 3 3, 33) :: rl19 w f1 f2
def rl17 (w : Int) (f1 f2 : Bool) : List (Bool × Int) := (rR0 w f1 f2 3 2, 32) :: rl18 w f1 f2
def rl16 (w : Int) (f1 f2 : Bool) : List (Bool × Int) := (rR0 w f1 f2 3 1, 31) :: rl17 w f1 f2
def rl15 (w : Int) (f1 f2 : Bool) : List (Bool × Int) := (rR0 w f1 f2 3 0, 30) :: rl16 w f1 f2
def rl14 (w : Int) (f1 f2 : Bool) : List (Bool × Int) := (rR0 w f1 f2 2 4, 24) :: rl15 w f1 f2
def rl13 (w : Int) (f1 f2 : Bool) : List (Bool × Int) := (rR0 w f1 f2 2 3, 23) :: rl14 w f1 f2
def rl12 (w : Int) (f1 f2 : Bool) : List (Bool × Int) := (rR0 w f1 f2 2 2, 22) :: rl13 w f1 f2
def rl11 (w : Int) (f1 f2 : Bool) : List (Bool × Int) := (rR0 w f1 f2 2 1, 21) :: rl12 w f1 f2
def rl10 (w : Int) (f1 f2 : Bool) : List (Bool × Int) := (rR0 w f1 f2 2 0, 20) :: rl11 w f1 f2
def rl9 (w : Int) (f1 f2 : Bool) : List (Bool × Int) := (rR0 w f1 f2 1 4, 14) :: rl10 w f1 f2
def rl8 (w : Int) (f1 f2 : Bool) : List (Bool × Int) := (rR0 w f1 f2 1 3, 13) :: rl9 w f1 f2
def rl7 (w : Int) (f1 f2 : Bool) : List (Bool × Int) := (rR0 w f1 f2 1 2, 12) :: rl8 w f1 f2
def rl6 (w : Int) (f1 f2 : Bool) : List (Bool × Int) := (rR0 w f1 f2 1 1, 11) :: rl7 w f1 f2
def rl5 (w : Int) (f1 f2 : Bool) : List (Bool × Int) := (rR0 w f1 f2 1 0, 10) :: rl6 w f1 f2
def rl4 (w : Int) (f1 f2 : Bool) : List (Bool × Int) := (rR0 w f1 f2 0 4, 4) :: rl5 w f1 f2
def rl3 (w : Int) (f1 f2 : Bool) : List (Bool × Int) := (rR0 w f1 f2 0 3, 3) :: rl4 w f1 f2
def rl2 (w : Int) (f1 f2 : Bool) : List (Bool × Int) := (rR0 w f1 f2 0 2, 2) :: rl3 w f1 f2
def rl1 (w : Int) (f1 f2 : Bool) : List (Bool × Int) := (rR0 w f1 f2 0 1, 1) :: rl2 w f1 f2
def rl0 (w : Int) (f1 f2 : Bool) : List (Bool × Int) := (rR0 w f1 f2 0 0, 0) :: rl1 w f1 f2
theorem t171_1 {m : Nat → Nat → Int} {b : Int} (rb : 0 ≤ b ∧ b ≤ 4) {w : Int} {f1 f2 : Bool} (hwv : 0 ≤ w ∧ w ≤ 9) (h0 : m 53 0 = w) (h1 : m 53 1 = bI f1) (h2 : m 53 2 = bI f2) : h_M 171 [.ref 53, fi (b), fi (1)] m (some (fi (w - b))) m := h_M_of (R := ev_r171) rfl (fun hc hw hm => by
  have hL : f_L (lv_args 0 [.ref 53, fi (b), fi (1)]) [(0, .ref 53), (1, fi (b)), (2, fi (1))] := f_L_of rfl
  generalize lv_args 0 [.ref 53, fi (b), fi (1)] = L at hL
  show x_W none (1, 0, 3, 2, 2, 0, 0, 0, 0, ev_t171) 0 L [] hc 0 0 _
  have hR := gi_R hm
  refine f_iln 2 rfl hL rfl ?_
  refine f_if rfl (by decide) (fun c_9 => absurd (show (1 : Int) = (0 : Int) from c_9) (by decide)) (fun _ => ?_)
  refine f_aln 0 rfl hL rfl ?_
  refine m_gfi so53 (w) rfl hw hm rfl h0 ?_
  refine f_iln 1 rfl hL rfl ?_
  refine f_isub rfl ?_
  exact f_ret1 rfl ⟨rfl, hw, hm⟩)
theorem t171_0 {m : Nat → Nat → Int} {b : Int} (rb : 0 ≤ b ∧ b ≤ 4) {w : Int} {f1 f2 : Bool} (hwv : 0 ≤ w ∧ w ≤ 9) (h0 : m 53 0 = w) (h1 : m 53 1 = bI f1) (h2 : m 53 2 = bI f2) : h_M 171 [.ref 53, fi (b), fi (0)] m (some (fi (if 0 < b then -1 else 0))) m := h_M_of (R := ev_r171) rfl (fun hc hw hm => by
  have hL : f_L (lv_args 0 [.ref 53, fi (b), fi (0)]) [(0, .ref 53), (1, fi (b)), (2, fi (0))] := f_L_of rfl
  generalize lv_args 0 [.ref 53, fi (b), fi (0)] = L at hL
  show x_W none (1, 0, 3, 2, 2, 0, 0, 0, 0, ev_t171) 0 L [] hc 0 0 _
  have hR := gi_R hm
  refine f_iln 2 rfl hL rfl ?_
  refine f_if rfl (by decide) (fun _ => ?_) (fun c_9 => absurd (show (0 : Int) = (0 : Int) from (by decide)) c_9)
  refine f_iln 1 rfl hL rfl ?_
  refine f_if rfl (by omega) (fun c1 => ?_) (fun c1 => ?_)
  · have c1 : (b : Int) ≤ (0 : Int) := c1
    refine f_s [fi (0)] rfl rfl ?_
    exact f_ret1 rfl ⟨by rw [if_neg (by omega)], hw, hm⟩
  · have c1 : ¬ ((b : Int) ≤ (0 : Int)) := c1
    refine f_s [fi (-1)] rfl rfl ?_
    refine f_goto rfl ?_
    exact f_ret1 rfl ⟨by rw [if_pos (by omega)], hw, hm⟩)
theorem t172 {m : Nat → Nat → Int} {a : Int} (ra : 0 ≤ a ∧ a ≤ 4) {b : Int} (rb : 0 ≤ b ∧ b ≤ 4) {w : Int} {f1 f2 : Bool} (hwv : 0 ≤ w ∧ w ≤ 9) (h0 : m 53 0 = w) (h1 : m 53 1 = bI f1) (h2 : m 53 2 = bI f2) : h_M 172 [.ref 53, fi (a), fi (b)] m (some (fi (g1 w f1 f2 a b))) m := h_M_of (R := ev_r172) rfl (fun hc hw hm => by
  have hL : f_L (lv_args 0 [.ref 53, fi (a), fi (b)]) [(0, .ref 53), (1, fi (a)), (2, fi (b))] := f_L_of rfl
  generalize lv_args 0 [.ref 53, fi (a), fi (b)] = L at hL
  show x_W none (1, 0, 3, 2, 2, 1, 22, 0, 0, ev_t172) 0 L [] hc 0 0 _
  have hR := gi_R hm
  refine f_aln 0 rfl hL rfl ?_
  refine f_iln 1 rfl hL rfl ?_
  refine f_aln 0 rfl hL rfl ?_
  refine m_gfi so53 (bI f1) rfl hw hm rfl h1 ?_
  refine f_if rfl (bI_r _) (fun c1 => ?_) (fun c1 => ?_)
  · have c1 : (bI f1 : Int) = (0 : Int) := c1
    refine f_s [fi (0), fi (a), .ref 53] rfl rfl ?_
    refine m_k1 (t171_0 (b := a) (by omega) hwv h0 h1 h2) hw hm rfl rfl rfl (m_ar so53 hw rfl) rfl (fun hc1 hw1 hm1 => ?_)
    exact f_ret1 rfl ⟨by unfold g1 gB; rw [if_neg (show ¬ (f1 && (decide (b ≤ a) || !f2)) = true by rw [bI0 c1, Bool.false_and]; decide)], hw1, hm1⟩
  · have c1 : ¬ ((bI f1 : Int) = (0 : Int)) := c1
    refine f_iln 1 rfl hL rfl ?_
    refine f_iln 2 rfl hL rfl ?_
    refine f_ic rfl (by omega) (by omega) (fun c2 => ?_) (fun c2 => ?_)
    · have c2 : (b : Int) ≤ (a : Int) := c2
      refine f_s [fi (1), fi (a), .ref 53] rfl rfl ?_
      refine f_goto rfl ?_
      refine m_k1 (t171_1 (b := a) (by omega) hwv h0 h1 h2) hw hm rfl rfl rfl (m_ar so53 hw rfl) rfl (fun hc2 hw2 hm2 => ?_)
      exact f_ret1 rfl ⟨by unfold g1; rw [gB_t (show (f1 && (decide (b ≤ a) || !f2)) = true by rw [bI1 c1, decide_eq_true (by omega)]; rfl)], hw2, hm2⟩
    · have c2 : ¬ ((b : Int) ≤ (a : Int)) := c2
      refine f_aln 0 rfl hL rfl ?_
      refine m_gfi so53 (bI f2) rfl hw hm rfl h2 ?_
      refine f_if rfl (bI_r _) (fun c3 => ?_) (fun c3 => ?_)
      · have c3 : ¬ (bI f2 : Int) = (0 : Int) := c3
        refine f_s [fi (0), fi (a), .ref 53] rfl rfl ?_
        refine m_k1 (t171_0 (b := a) (by omega) hwv h0 h1 h2) hw hm rfl rfl rfl (m_ar so53 hw rfl) rfl (fun hc3 hw3 hm3 => ?_)
        exact f_ret1 rfl ⟨by unfold g1 gB; rw [if_neg (show ¬ (f1 && (decide (b ≤ a) || !f2)) = true by rw [bI1 c1, decide_eq_false (by omega), bI1 c3]; decide)], hw3, hm3⟩
      · have c3 : ¬ (¬ (bI f2 : Int) = (0 : Int)) := c3
        refine f_s [fi (1), fi (a), .ref 53] rfl rfl ?_
        refine f_goto rfl ?_
        refine m_k1 (t171_1 (b := a) (by omega) hwv h0 h1 h2) hw hm rfl rfl rfl (m_ar so53 hw rfl) rfl (fun hc4 hw4 hm4 => ?_)
        exact f_ret1 rfl ⟨by unfold g1; rw [gB_t (show (f1 && (decide (b ≤ a) || !f2)) = true by rw [bI1 c1, decide_eq_false (by omega), bI0 (Classical.byContradiction c3)]; rfl)], hw4, hm4⟩)
theorem t173 {m : Nat → Nat → Int} {a : Int} (ra : 0 ≤ a ∧ a ≤ 4) {b : Int} (rb : 0 ≤ b ∧ b ≤ 4) {w : Int} {f1 f2 : Bool} (hwv : 0 ≤ w ∧ w ≤ 9) (h0 : m 53 0 = w) (h1 : m 53 1 = bI f1) (h2 : m 53 2 = bI f2) : h_M 173 [.ref 53, fi (a), fi (b)] m (some (fi (g2 w f1 f2 a b))) m := h_M_of (R := ev_r173) rfl (fun hc hw hm => by
  have hL : f_L (lv_args 0 [.ref 53, fi (a), fi (b)]) [(0, .ref 53), (1, fi (a)), (2, fi (b))] := f_L_of rfl
  generalize lv_args 0 [.ref 53, fi (a), fi (b)] = L at hL
  show x_W none (1, 0, 3, 2, 2, 1, 22, 0, 0, ev_t173) 0 L [] hc 0 0 _
  have hR := gi_R hm
  refine f_aln 0 rfl hL rfl ?_
  refine f_iln 2 rfl hL rfl ?_
  refine f_aln 0 rfl hL rfl ?_
  refine m_gfi so53 (bI f2) rfl hw hm rfl h2 ?_
  refine f_if rfl (bI_r _) (fun c1 => ?_) (fun c1 => ?_)
  · have c1 : (bI f2 : Int) = (0 : Int) := c1
    refine f_s [fi (0), fi (b), .ref 53] rfl rfl ?_
    refine m_k1 (t171_0 (b := b) (by omega) hwv h0 h1 h2) hw hm rfl rfl rfl (m_ar so53 hw rfl) rfl (fun hc1 hw1 hm1 => ?_)
    exact f_ret1 rfl ⟨by unfold g2 gB; rw [if_neg (show ¬ (f2 && (decide (a < b) || !f1)) = true by rw [bI0 c1, Bool.false_and]; decide)], hw1, hm1⟩
  · have c1 : ¬ ((bI f2 : Int) = (0 : Int)) := c1
    refine f_iln 2 rfl hL rfl ?_
    refine f_iln 1 rfl hL rfl ?_
    refine f_ic rfl (by omega) (by omega) (fun c2 => ?_) (fun c2 => ?_)
    · have c2 : (a : Int) < (b : Int) := c2
      refine f_s [fi (1), fi (b), .ref 53] rfl rfl ?_
      refine f_goto rfl ?_
      refine m_k1 (t171_1 (b := b) (by omega) hwv h0 h1 h2) hw hm rfl rfl rfl (m_ar so53 hw rfl) rfl (fun hc2 hw2 hm2 => ?_)
      exact f_ret1 rfl ⟨by unfold g2; rw [gB_t (show (f2 && (decide (a < b) || !f1)) = true by rw [bI1 c1, decide_eq_true (by omega)]; rfl)], hw2, hm2⟩
    · have c2 : ¬ ((a : Int) < (b : Int)) := c2
      refine f_aln 0 rfl hL rfl ?_
      refine m_gfi so53 (bI f1) rfl hw hm rfl h1 ?_
      refine f_if rfl (bI_r _) (fun c3 => ?_) (fun c3 => ?_)
      · have c3 : ¬ (bI f1 : Int) = (0 : Int) := c3
        refine f_s [fi (0), fi (b), .ref 53] rfl rfl ?_
        refine m_k1 (t171_0 (b := b) (by omega) hwv h0 h1 h2) hw hm rfl rfl rfl (m_ar so53 hw rfl) rfl (fun hc3 hw3 hm3 => ?_)
        exact f_ret1 rfl ⟨by unfold g2 gB; rw [if_neg (show ¬ (f2 && (decide (a < b) || !f1)) = true by rw [bI1 c1, decide_eq_false (by omega), bI1 c3]; decide)], hw3, hm3⟩
      · have c3 : ¬ (¬ (bI f1 : Int) = (0 : Int)) := c3
        refine f_s [fi (1), fi (b), .ref 53] rfl rfl ?_
        refine f_goto rfl ?_
        refine m_k1 (t171_1 (b := b) (by omega) hwv h0 h1 h2) hw hm rfl rfl rfl (m_ar so53 hw rfl) rfl (fun hc4 hw4 hm4 => ?_)
        exact f_ret1 rfl ⟨by unfold g2; rw [gB_t (show (f2 && (decide (a < b) || !f1)) = true by rw [bI1 c1, decide_eq_false (by omega), bI0 (Classical.byContradiction c3)]; rfl)], hw4, hm4⟩)
theorem g1_r {w : Int} {f1 f2 : Bool} {a b : Int} (hw : 0 ≤ w ∧ w ≤ 9) (ha : 0 ≤ a ∧ a ≤ 4) : -2147483648 ≤ g1 w f1 f2 a b ∧ g1 w f1 f2 a b ≤ 2147483647 := gB_r hw ha
theorem g2_r {w : Int} {f1 f2 : Bool} {a b : Int} (hw : 0 ≤ w ∧ w ≤ 9) (hb : 0 ≤ b ∧ b ≤ 4) : -2147483648 ≤ g2 w f1 f2 a b ∧ g2 w f1 f2 a b ≤ 2147483647 := gB_r hw hb
theorem t174 {m : Nat → Nat → Int} {a : Int} (ra : 0 ≤ a ∧ a ≤ 4) {b : Int} (rb : 0 ≤ b ∧ b ≤ 4) {w : Int} {f1 f2 : Bool} (hwv : 0 ≤ w ∧ w ≤ 9) (h0 : m 53 0 = w) (h1 : m 53 1 = bI f1) (h2 : m 53 2 = bI f2) : h_M 174 [.ref 53, fi (a), fi (b)] m (some (fi (bI (rR0 w f1 f2 a b)))) m := h_M_of (R := ev_r174) rfl (fun hc hw hm => by
  have hL : f_L (lv_args 0 [.ref 53, fi (a), fi (b)]) [(0, .ref 53), (1, fi (a)), (2, fi (b))] := f_L_of rfl
  generalize lv_args 0 [.ref 53, fi (a), fi (b)] = L at hL
  show x_W none (2, 0, 4, 2, 2, 2, 44, 0, 0, ev_t174) 0 L [] hc 0 0 _
  have hR := gi_R hm
  have hK5 : ∀ (hc : ev_H) (L : ev_L), y_in yGw hc → gi hc = m → f_L L [(3, fi (5)), (0, .ref 53), (1, fi (a)), (2, fi (b))] → x_W none (2, 0, 4, 2, 2, 2, 44, 0, 0, ev_t174) 2 L [] hc 0 0 (fun r' h' => r' = some (fi (bI (rR5 w f1 f2 a b))) ∧ y_in yGw h' ∧ gi h' = m) := fun hc L hw hm hL => by
    refine f_iln 0 rfl hL rfl ?_
    refine f_s [fi (5), fi (5)] rfl rfl ?_
    refine f_ic rfl (by decide) (by decide) (fun _ => ?_) (fun c_9 => absurd (show (5 : Int) ≤ (5 : Int) from (by decide)) c_9)
    refine f_s [fi (1)] rfl rfl ?_
    exact f_ret2 rfl (Or.inr rfl) ⟨rfl, hw, hm⟩
  have hK4 : ∀ (hc : ev_H) (L : ev_L), y_in yGw hc → gi hc = m → f_L L [(3, fi (4)), (0, .ref 53), (1, fi (a)), (2, fi (b))] → x_W none (2, 0, 4, 2, 2, 2, 44, 0, 0, ev_t174) 2 L [] hc 0 0 (fun r' h' => r' = some (fi (bI (rR4 w f1 f2 a b))) ∧ y_in yGw h' ∧ gi h' = m) := fun hc L hw hm hL => by
    refine f_iln 0 rfl hL rfl ?_
    refine f_s [fi (5), fi (4)] rfl rfl ?_
    refine f_ic rfl (by decide) (by decide) (fun c_9 => absurd (show (5 : Int) ≤ (4 : Int) from c_9) (by decide)) (fun _ => ?_)
    refine f_aln 1 rfl hL rfl ?_
    refine f_iln 0 rfl hL rfl ?_
    refine f_iln 3 rfl hL rfl ?_
    refine m_k1 (t172 (a := 4) (b := b) (by decide) rb hwv h0 h1 h2) hw hm rfl rfl rfl (m_ar so53 hw rfl) rfl (fun hc1 hw1 hm1 => ?_)
    refine f_aln 1 rfl hL rfl ?_
    refine f_iln 2 rfl hL rfl ?_
    refine f_iln 3 rfl hL rfl ?_
    refine m_k1 (t172 ra rb hwv h0 h1 h2) hw1 hm1 rfl rfl rfl (m_ar so53 hw1 rfl) rfl (fun hc2 hw2 hm2 => ?_)
    refine f_ic rfl (g1_r hwv (by decide)) (g1_r hwv ra) (fun c1 => ?_) (fun c1 => ?_)
    · have c1 : (g1 w f1 f2 a b : Int) < (g1 w f1 f2 4 b : Int) := c1
      refine f_s [fi (0)] rfl rfl ?_
      exact f_ret2 rfl (Or.inl rfl) ⟨by rw [show rR4 w f1 f2 a b = (rT w f1 f2 a b 4 && rR5 w f1 f2 a b) from rfl, show rT w f1 f2 a b 4 = false from decide_eq_false (by omega)]; rfl, hw2, hm2⟩
    · have c1 : ¬ ((g1 w f1 f2 a b : Int) < (g1 w f1 f2 4 b : Int)) := c1
      refine f_aln 1 rfl hL rfl ?_
      refine f_iln 2 rfl hL rfl ?_
      refine f_iln 0 rfl hL rfl ?_
      refine m_k1 (t173 (a := a) (b := 4) ra (by decide) hwv h0 h1 h2) hw2 hm2 rfl rfl rfl (m_ar so53 hw2 rfl) rfl (fun hc3 hw3 hm3 => ?_)
      refine f_aln 1 rfl hL rfl ?_
      refine f_iln 2 rfl hL rfl ?_
      refine f_iln 3 rfl hL rfl ?_
      refine m_k1 (t173 ra rb hwv h0 h1 h2) hw3 hm3 rfl rfl rfl (m_ar so53 hw3 rfl) rfl (fun hc4 hw4 hm4 => ?_)
      refine f_ic rfl (g2_r hwv (by decide)) (g2_r hwv rb) (fun c2 => ?_) (fun c2 => ?_)
      · have c2 : (g2 w f1 f2 a 4 : Int) ≤ (g2 w f1 f2 a b : Int) := c2
        refine f_inc 0 [(3, fi (5)), (0, .ref 53), (1, fi (a)), (2, fi (b))] rfl (by decide) hL rfl rfl (fun L1 hL1 => ?_)
        refine f_goto rfl ?_
        rw [show rR4 w f1 f2 a b = (rT w f1 f2 a b 4 && rR5 w f1 f2 a b) from rfl, show rT w f1 f2 a b 4 = true from decide_eq_true ⟨by omega, by omega⟩, Bool.true_and]
        exact hK5 hc4 _ hw4 hm4 (hL1.sel [0, 1, 2, 3] rfl)
      · have c2 : ¬ ((g2 w f1 f2 a 4 : Int) ≤ (g2 w f1 f2 a b : Int)) := c2
        refine f_s [fi (0)] rfl rfl ?_
        exact f_ret2 rfl (Or.inl rfl) ⟨by rw [show rR4 w f1 f2 a b = (rT w f1 f2 a b 4 && rR5 w f1 f2 a b) from rfl, show rT w f1 f2 a b 4 = false from decide_eq_false (by omega)]; rfl, hw4, hm4⟩
  have hK3 : ∀ (hc : ev_H) (L : ev_L), y_in yGw hc → gi hc = m → f_L L [(3, fi (3)), (0, .ref 53), (1, fi (a)), (2, fi (b))] → x_W none (2, 0, 4, 2, 2, 2, 44, 0, 0, ev_t174) 2 L [] hc 0 0 (fun r' h' => r' = some (fi (bI (rR3 w f1 f2 a b))) ∧ y_in yGw h' ∧ gi h' = m) := fun hc L hw hm hL => by
    refine f_iln 0 rfl hL rfl ?_
    refine f_s [fi (5), fi (3)] rfl rfl ?_
    refine f_ic rfl (by decide) (by decide) (fun c_9 => absurd (show (5 : Int) ≤ (3 : Int) from c_9) (by decide)) (fun _ => ?_)
    refine f_aln 1 rfl hL rfl ?_
    refine f_iln 0 rfl hL rfl ?_
    refine f_iln 3 rfl hL rfl ?_
    refine m_k1 (t172 (a := 3) (b := b) (by decide) rb hwv h0 h1 h2) hw hm rfl rfl rfl (m_ar so53 hw rfl) rfl (fun hc5 hw5 hm5 => ?_)
    refine f_aln 1 rfl hL rfl ?_
    refine f_iln 2 rfl hL rfl ?_
    refine f_iln 3 rfl hL rfl ?_
    refine m_k1 (t172 ra rb hwv h0 h1 h2) hw5 hm5 rfl rfl rfl (m_ar so53 hw5 rfl) rfl (fun hc6 hw6 hm6 => ?_)
    refine f_ic rfl (g1_r hwv (by decide)) (g1_r hwv ra) (fun c1 => ?_) (fun c1 => ?_)
    · have c1 : (g1 w f1 f2 a b : Int) < (g1 w f1 f2 3 b : Int) := c1
      refine f_s [fi (0)] rfl rfl ?_
      exact f_ret2 rfl (Or.inl rfl) ⟨by rw [show rR3 w f1 f2 a b = (rT w f1 f2 a b 3 && rR4 w f1 f2 a b) from rfl, show rT w f1 f2 a b 3 = false from decide_eq_false (by omega)]; rfl, hw6, hm6⟩
    · have c1 : ¬ ((g1 w f1 f2 a b : Int) < (g1 w f1 f2 3 b : Int)) := c1
      refine f_aln 1 rfl hL rfl ?_
      refine f_iln 2 rfl hL rfl ?_
      refine f_iln 0 rfl hL rfl ?_
      refine m_k1 (t173 (a := a) (b := 3) ra (by decide) hwv h0 h1 h2) hw6 hm6 rfl rfl rfl (m_ar so53 hw6 rfl) rfl (fun hc7 hw7 hm7 => ?_)
      refine f_aln 1 rfl hL rfl ?_
      refine f_iln 2 rfl hL rfl ?_
      refine f_iln 3 rfl hL rfl ?_
      refine m_k1 (t173 ra rb hwv h0 h1 h2) hw7 hm7 rfl rfl rfl (m_ar so53 hw7 rfl) rfl (fun hc8 hw8 hm8 => ?_)
      refine f_ic rfl (g2_r hwv (by decide)) (g2_r hwv rb) (fun c2 => ?_) (fun c2 => ?_)
      · have c2 : (g2 w f1 f2 a 3 : Int) ≤ (g2 w f1 f2 a b : Int) := c2
        refine f_inc 0 [(3, fi (4)), (0, .ref 53), (1, fi (a)), (2, fi (b))] rfl (by decide) hL rfl rfl (fun L2 hL2 => ?_)
        refine f_goto rfl ?_
        rw [show rR3 w f1 f2 a b = (rT w f1 f2 a b 3 && rR4 w f1 f2 a b) from rfl, show rT w f1 f2 a b 3 = true from decide_eq_true ⟨by omega, by omega⟩, Bool.true_and]
        exact hK4 hc8 _ hw8 hm8 (hL2.sel [0, 1, 2, 3] rfl)
      · have c2 : ¬ ((g2 w f1 f2 a 3 : Int) ≤ (g2 w f1 f2 a b : Int)) := c2
        refine f_s [fi (0)] rfl rfl ?_
        exact f_ret2 rfl (Or.inl rfl) ⟨by rw [show rR3 w f1 f2 a b = (rT w f1 f2 a b 3 && rR4 w f1 f2 a b) from rfl, show rT w f1 f2 a b 3 = false from decide_eq_false (by omega)]; rfl, hw8, hm8⟩
  have hK2 : ∀ (hc : ev_H) (L : ev_L), y_in yGw hc → gi hc = m → f_L L [(3, fi (2)), (0, .ref 53), (1, fi (a)), (2, fi (b))] → x_W none (2, 0, 4, 2, 2, 2, 44, 0, 0, ev_t174) 2 L [] hc 0 0 (fun r' h' => r' = some (fi (bI (rR2 w f1 f2 a b))) ∧ y_in yGw h' ∧ gi h' = m) := fun hc L hw hm hL => by
    refine f_iln 0 rfl hL rfl ?_
    refine f_s [fi (5), fi (2)] rfl rfl ?_
    refine f_ic rfl (by decide) (by decide) (fun c_9 => absurd (show (5 : Int) ≤ (2 : Int) from c_9) (by decide)) (fun _ => ?_)
    refine f_aln 1 rfl hL rfl ?_
    refine f_iln 0 rfl hL rfl ?_
    refine f_iln 3 rfl hL rfl ?_
    refine m_k1 (t172 (a := 2) (b := b) (by decide) rb hwv h0 h1 h2) hw hm rfl rfl rfl (m_ar so53 hw rfl) rfl (fun hc9 hw9 hm9 => ?_)
    refine f_aln 1 rfl hL rfl ?_
    refine f_iln 2 rfl hL rfl ?_
    refine f_iln 3 rfl hL rfl ?_
    refine m_k1 (t172 ra rb hwv h0 h1 h2) hw9 hm9 rfl rfl rfl (m_ar so53 hw9 rfl) rfl (fun hc10 hw10 hm10 => ?_)
    refine f_ic rfl (g1_r hwv (by decide)) (g1_r hwv ra) (fun c1 => ?_) (fun c1 => ?_)
    · have c1 : (g1 w f1 f2 a b : Int) < (g1 w f1 f2 2 b : Int) := c1
      refine f_s [fi (0)] rfl rfl ?_
      exact f_ret2 rfl (Or.inl rfl) ⟨by rw [show rR2 w f1 f2 a b = (rT w f1 f2 a b 2 && rR3 w f1 f2 a b) from rfl, show rT w f1 f2 a b 2 = false from decide_eq_false (by omega)]; rfl, hw10, hm10⟩
    · have c1 : ¬ ((g1 w f1 f2 a b : Int) < (g1 w f1 f2 2 b : Int)) := c1
      refine f_aln 1 rfl hL rfl ?_
      refine f_iln 2 rfl hL rfl ?_
      refine f_iln 0 rfl hL rfl ?_
      refine m_k1 (t173 (a := a) (b := 2) ra (by decide) hwv h0 h1 h2) hw10 hm10 rfl rfl rfl (m_ar so53 hw10 rfl) rfl (fun hc11 hw11 hm11 => ?_)
      refine f_aln 1 rfl hL rfl ?_
      refine f_iln 2 rfl hL rfl ?_
      refine f_iln 3 rfl hL rfl ?_
      refine m_k1 (t173 ra rb hwv h0 h1 h2) hw11 hm11 rfl rfl rfl (m_ar so53 hw11 rfl) rfl (fun hc12 hw12 hm12 => ?_)
      refine f_ic rfl (g2_r hwv (by decide)) (g2_r hwv rb) (fun c2 => ?_) (fun c2 => ?_)
      · have c2 : (g2 w f1 f2 a 2 : Int) ≤ (g2 w f1 f2 a b : Int) := c2
        refine f_inc 0 [(3, fi (3)), (0, .ref 53), (1, fi (a)), (2, fi (b))] rfl (by decide) hL rfl rfl (fun L3 hL3 => ?_)
        refine f_goto rfl ?_
        rw [show rR2 w f1 f2 a b = (rT w f1 f2 a b 2 && rR3 w f1 f2 a b) from rfl, show rT w f1 f2 a b 2 = true from decide_eq_true ⟨by omega, by omega⟩, Bool.true_and]
        exact hK3 hc12 _ hw12 hm12 (hL3.sel [0, 1, 2, 3] rfl)
      · have c2 : ¬ ((g2 w f1 f2 a 2 : Int) ≤ (g2 w f1 f2 a b : Int)) := c2
        refine f_s [fi (0)] rfl rfl ?_
        exact f_ret2 rfl (Or.inl rfl) ⟨by rw [show rR2 w f1 f2 a b = (rT w f1 f2 a b 2 && rR3 w f1 f2 a b) from rfl, show rT w f1 f2 a b 2 = false from decide_eq_false (by omega)]; rfl, hw12, hm12⟩
  have hK1 : ∀ (hc : ev_H) (L : ev_L), y_in yGw hc → gi hc = m → f_L L [(3, fi (1)), (0, .ref 53), (1, fi (a)), (2, fi (b))] → x_W none (2, 0, 4, 2, 2, 2, 44, 0, 0, ev_t174) 2 L [] hc 0 0 (fun r' h' => r' = some (fi (bI (rR1 w f1 f2 a b))) ∧ y_in yGw h' ∧ gi h' = m) := fun hc L hw hm hL => by
    refine f_iln 0 rfl hL rfl ?_
    refine f_s [fi (5), fi (1)] rfl rfl ?_
    refine f_ic rfl (by decide) (by decide) (fun c_9 => absurd (show (5 : Int) ≤ (1 : Int) from c_9) (by decide)) (fun _ => ?_)
    refine f_aln 1 rfl hL rfl ?_
    refine f_iln 0 rfl hL rfl ?_
    refine f_iln 3 rfl hL rfl ?_
    refine m_k1 (t172 (a := 1) (b := b) (by decide) rb hwv h0 h1 h2) hw hm rfl rfl rfl (m_ar so53 hw rfl) rfl (fun hc13 hw13 hm13 => ?_)
    refine f_aln 1 rfl hL rfl ?_
    refine f_iln 2 rfl hL rfl ?_
    refine f_iln 3 rfl hL rfl ?_
    refine m_k1 (t172 ra rb hwv h0 h1 h2) hw13 hm13 rfl rfl rfl (m_ar so53 hw13 rfl) rfl (fun hc14 hw14 hm14 => ?_)
    refine f_ic rfl (g1_r hwv (by decide)) (g1_r hwv ra) (fun c1 => ?_) (fun c1 => ?_)
    · have c1 : (g1 w f1 f2 a b : Int) < (g1 w f1 f2 1 b : Int) := c1
      refine f_s [fi (0)] rfl rfl ?_
      exact f_ret2 rfl (Or.inl rfl) ⟨by rw [show rR1 w f1 f2 a b = (rT w f1 f2 a b 1 && rR2 w f1 f2 a b) from rfl, show rT w f1 f2 a b 1 = false from decide_eq_false (by omega)]; rfl, hw14, hm14⟩
    · have c1 : ¬ ((g1 w f1 f2 a b : Int) < (g1 w f1 f2 1 b : Int)) := c1
      refine f_aln 1 rfl hL rfl ?_
      refine f_iln 2 rfl hL rfl ?_
      refine f_iln 0 rfl hL rfl ?_
      refine m_k1 (t173 (a := a) (b := 1) ra (by decide) hwv h0 h1 h2) hw14 hm14 rfl rfl rfl (m_ar so53 hw14 rfl) rfl (fun hc15 hw15 hm15 => ?_)
      refine f_aln 1 rfl hL rfl ?_
      refine f_iln 2 rfl hL rfl ?_
      refine f_iln 3 rfl hL rfl ?_
      refine m_k1 (t173 ra rb hwv h0 h1 h2) hw15 hm15 rfl rfl rfl (m_ar so53 hw15 rfl) rfl (fun hc16 hw16 hm16 => ?_)
      refine f_ic rfl (g2_r hwv (by decide)) (g2_r hwv rb) (fun c2 => ?_) (fun c2 => ?_)
      · have c2 : (g2 w f1 f2 a 1 : Int) ≤ (g2 w f1 f2 a b : Int) := c2
        refine f_inc 0 [(3, fi (2)), (0, .ref 53), (1, fi (a)), (2, fi (b))] rfl (by decide) hL rfl rfl (fun L4 hL4 => ?_)
        refine f_goto rfl ?_
        rw [show rR1 w f1 f2 a b = (rT w f1 f2 a b 1 && rR2 w f1 f2 a b) from rfl, show rT w f1 f2 a b 1 = true from decide_eq_true ⟨by omega, by omega⟩, Bool.true_and]
        exact hK2 hc16 _ hw16 hm16 (hL4.sel [0, 1, 2, 3] rfl)
      · have c2 : ¬ ((g2 w f1 f2 a 1 : Int) ≤ (g2 w f1 f2 a b : Int)) := c2
        refine f_s [fi (0)] rfl rfl ?_
        exact f_ret2 rfl (Or.inl rfl) ⟨by rw [show rR1 w f1 f2 a b = (rT w f1 f2 a b 1 && rR2 w f1 f2 a b) from rfl, show rT w f1 f2 a b 1 = false from decide_eq_false (by omega)]; rfl, hw16, hm16⟩
  have hK0 : ∀ (hc : ev_H) (L : ev_L), y_in yGw hc → gi hc = m → f_L L [(3, fi (0)), (0, .ref 53), (1, fi (a)), (2, fi (b))] → x_W none (2, 0, 4, 2, 2, 2, 44, 0, 0, ev_t174) 2 L [] hc 0 0 (fun r' h' => r' = some (fi (bI (rR0 w f1 f2 a b))) ∧ y_in yGw h' ∧ gi h' = m) := fun hc L hw hm hL => by
    refine f_iln 0 rfl hL rfl ?_
    refine f_s [fi (5), fi (0)] rfl rfl ?_
    refine f_ic rfl (by decide) (by decide) (fun c_9 => absurd (show (5 : Int) ≤ (0 : Int) from c_9) (by decide)) (fun _ => ?_)
    refine f_aln 1 rfl hL rfl ?_
    refine f_iln 0 rfl hL rfl ?_
    refine f_iln 3 rfl hL rfl ?_
    refine m_k1 (t172 (a := 0) (b := b) (by decide) rb hwv h0 h1 h2) hw hm rfl rfl rfl (m_ar so53 hw rfl) rfl (fun hc17 hw17 hm17 => ?_)
    refine f_aln 1 rfl hL rfl ?_
    refine f_iln 2 rfl hL rfl ?_
    refine f_iln 3 rfl hL rfl ?_
    refine m_k1 (t172 ra rb hwv h0 h1 h2) hw17 hm17 rfl rfl rfl (m_ar so53 hw17 rfl) rfl (fun hc18 hw18 hm18 => ?_)
    refine f_ic rfl (g1_r hwv (by decide)) (g1_r hwv ra) (fun c1 => ?_) (fun c1 => ?_)
    · have c1 : (g1 w f1 f2 a b : Int) < (g1 w f1 f2 0 b : Int) := c1
      refine f_s [fi (0)] rfl rfl ?_
      exact f_ret2 rfl (Or.inl rfl) ⟨by rw [show rR0 w f1 f2 a b = (rT w f1 f2 a b 0 && rR1 w f1 f2 a b) from rfl, show rT w f1 f2 a b 0 = false from decide_eq_false (by omega)]; rfl, hw18, hm18⟩
    · have c1 : ¬ ((g1 w f1 f2 a b : Int) < (g1 w f1 f2 0 b : Int)) := c1
      refine f_aln 1 rfl hL rfl ?_
      refine f_iln 2 rfl hL rfl ?_
      refine f_iln 0 rfl hL rfl ?_
      refine m_k1 (t173 (a := a) (b := 0) ra (by decide) hwv h0 h1 h2) hw18 hm18 rfl rfl rfl (m_ar so53 hw18 rfl) rfl (fun hc19 hw19 hm19 => ?_)
      refine f_aln 1 rfl hL rfl ?_
      refine f_iln 2 rfl hL rfl ?_
      refine f_iln 3 rfl hL rfl ?_
      refine m_k1 (t173 ra rb hwv h0 h1 h2) hw19 hm19 rfl rfl rfl (m_ar so53 hw19 rfl) rfl (fun hc20 hw20 hm20 => ?_)
      refine f_ic rfl (g2_r hwv (by decide)) (g2_r hwv rb) (fun c2 => ?_) (fun c2 => ?_)
      · have c2 : (g2 w f1 f2 a 0 : Int) ≤ (g2 w f1 f2 a b : Int) := c2
        refine f_inc 0 [(3, fi (1)), (0, .ref 53), (1, fi (a)), (2, fi (b))] rfl (by decide) hL rfl rfl (fun L5 hL5 => ?_)
        refine f_goto rfl ?_
        rw [show rR0 w f1 f2 a b = (rT w f1 f2 a b 0 && rR1 w f1 f2 a b) from rfl, show rT w f1 f2 a b 0 = true from decide_eq_true ⟨by omega, by omega⟩, Bool.true_and]
        exact hK1 hc20 _ hw20 hm20 (hL5.sel [0, 1, 2, 3] rfl)
      · have c2 : ¬ ((g2 w f1 f2 a 0 : Int) ≤ (g2 w f1 f2 a b : Int)) := c2
        refine f_s [fi (0)] rfl rfl ?_
        exact f_ret2 rfl (Or.inl rfl) ⟨by rw [show rR0 w f1 f2 a b = (rT w f1 f2 a b 0 && rR1 w f1 f2 a b) from rfl, show rT w f1 f2 a b 0 = false from decide_eq_false (by omega)]; rfl, hw20, hm20⟩
  refine f_s [fi (0)] rfl rfl ?_
  refine f_istn [(3, fi (0)), (0, .ref 53), (1, fi (a)), (2, fi (b))] rfl (by decide) hL rfl (fun L6 hL6 => ?_)
  exact hK0 hc _ hw hm (hL6.sel [0, 1, 2, 3] rfl))
set_option maxHeartbeats 1000000 in
theorem t175 {m : Nat → Nat → Int} {w : Int} {f1 f2 : Bool} (hwv : 0 ≤ w ∧ w ≤ 9) (h0 : m 53 0 = w) (h1 : m 53 1 = bI f1) (h2 : m 53 2 = bI f2) : h_M 175 [.ref 53] m (some (fi (lC (rl0 w f1 f2) 0))) m := h_M_of (R := ev_r175) rfl (fun hc hw hm => by
  have hL : f_L (lv_args 0 [.ref 53]) [(0, .ref 53)] := f_L_of rfl
  generalize lv_args 0 [.ref 53] = L at hL
  show x_W none (1, 0, 4, 0, 2, 3, 67, 0, 0, ev_t175) 0 L [] hc 0 0 _
  have hR := gi_R hm
  have hK24 : ∀ (hc : ev_H) (s : Int) (L : ev_L), y_in yGw hc → gi hc = m → f_L L [(3, fi (4)), (2, fi (4)), (1, fi (s)), (0, .ref 53)] → x_W none (1, 0, 4, 0, 2, 3, 67, 0, 0, ev_t175) 11 L [] hc 0 0 (fun r' h' => r' = some (fi (lC (rl24 w f1 f2) s)) ∧ y_in yGw h' ∧ gi h' = m) := fun hc s L hw hm hL => by
    refine f_iln 0 rfl hL rfl ?_
    refine f_s [fi (5), fi (4)] rfl rfl ?_
    refine f_ic rfl (by decide) (by decide) (fun c_9 => absurd (show (5 : Int) ≤ (4 : Int) from c_9) (by decide)) (fun _ => ?_)
    refine f_iln 2 rfl hL rfl ?_
    refine f_aln 3 rfl hL rfl ?_
    refine f_iln 1 rfl hL rfl ?_
    refine f_iln 0 rfl hL rfl ?_
    refine m_k1 (t174 (a := 4) (b := 4) (by decide) (by decide) hwv h0 h1 h2) hw hm rfl rfl rfl (m_ar so53 hw rfl) rfl (fun hc1 hw1 hm1 => ?_)
    refine f_if rfl (bI_r _) (fun c1 => ?_) (fun c1 => ?_)
    · have c1 : (bI (rR0 w f1 f2 4 4) : Int) = (0 : Int) := c1
      refine f_s [fi (0), fi (s)] rfl rfl ?_
      refine f_iadd rfl ?_
      refine f_istn [(1, fi (s + 0)), (3, fi (4)), (2, fi (4)), (0, .ref 53)] rfl (by decide) hL rfl (fun L1 hL1 => ?_)
      refine f_inc 1 [(3, fi (5)), (1, fi (s + 0)), (2, fi (4)), (0, .ref 53)] rfl (by decide) hL1 rfl rfl (fun L2 hL2 => ?_)
      refine f_goto rfl ?_
      refine f_iln 0 rfl hL2 rfl ?_
      refine f_s [fi (5), fi (5)] rfl rfl ?_
      refine f_ic rfl (by decide) (by decide) (fun _ => ?_) (fun c_9 => absurd (show (5 : Int) ≤ (5 : Int) from (by decide)) c_9)
      refine f_inc 2 [(2, fi (5)), (3, fi (5)), (1, fi (s + 0)), (0, .ref 53)] rfl (by decide) hL2 rfl rfl (fun L3 hL3 => ?_)
      refine f_goto rfl ?_
      refine f_iln 0 rfl hL3 rfl ?_
      refine f_s [fi (5), fi (5)] rfl rfl ?_
      refine f_ic rfl (by decide) (by decide) (fun _ => ?_) (fun c_9 => absurd (show (5 : Int) ≤ (5 : Int) from (by decide)) c_9)
      refine f_iln 2 rfl hL3 rfl ?_
      have e9 : bI (rR0 w f1 f2 4 4) = 0 := c1
      rw [show lC (rl24 w f1 f2) s = s + bI (rR0 w f1 f2 4 4) from rfl, e9]
      exact f_ret1 rfl ⟨rfl, hw1, hm1⟩
    · have c1 : ¬ ((bI (rR0 w f1 f2 4 4) : Int) = (0 : Int)) := c1
      refine f_s [fi (1), fi (s)] rfl rfl ?_
      refine f_goto rfl ?_
      refine f_iadd rfl ?_
      refine f_istn [(1, fi (s + 1)), (3, fi (4)), (2, fi (4)), (0, .ref 53)] rfl (by decide) hL rfl (fun L4 hL4 => ?_)
      refine f_inc 1 [(3, fi (5)), (1, fi (s + 1)), (2, fi (4)), (0, .ref 53)] rfl (by decide) hL4 rfl rfl (fun L5 hL5 => ?_)
      refine f_goto rfl ?_
      refine f_iln 0 rfl hL5 rfl ?_
      refine f_s [fi (5), fi (5)] rfl rfl ?_
      refine f_ic rfl (by decide) (by decide) (fun _ => ?_) (fun c_9 => absurd (show (5 : Int) ≤ (5 : Int) from (by decide)) c_9)
      refine f_inc 2 [(2, fi (5)), (3, fi (5)), (1, fi (s + 1)), (0, .ref 53)] rfl (by decide) hL5 rfl rfl (fun L6 hL6 => ?_)
      refine f_goto rfl ?_
      refine f_iln 0 rfl hL6 rfl ?_
      refine f_s [fi (5), fi (5)] rfl rfl ?_
      refine f_ic rfl (by decide) (by decide) (fun _ => ?_) (fun c_9 => absurd (show (5 : Int) ≤ (5 : Int) from (by decide)) c_9)
      refine f_iln 2 rfl hL6 rfl ?_
      have e9 : bI (rR0 w f1 f2 4 4) = 1 := by rw [bI1 c1]; rfl
      rw [show lC (rl24 w f1 f2) s = s + bI (rR0 w f1 f2 4 4) from rfl, e9]
      exact f_ret1 rfl ⟨rfl, hw1, hm1⟩
  have hK23 : ∀ (hc : ev_H) (s : Int) (L : ev_L), y_in yGw hc → gi hc = m → f_L L [(3, fi (3)), (2, fi (4)), (1, fi (s)), (0, .ref 53)] → x_W none (1, 0, 4, 0, 2, 3, 67, 0, 0, ev_t175) 11 L [] hc 0 0 (fun r' h' => r' = some (fi (lC (rl23 w f1 f2) s)) ∧ y_in yGw h' ∧ gi h' = m) := fun hc s L hw hm hL => by
    refine f_iln 0 rfl hL rfl ?_
    refine f_s [fi (5), fi (3)] rfl rfl ?_
    refine f_ic rfl (by decide) (by decide) (fun c_9 => absurd (show (5 : Int) ≤ (3 : Int) from c_9) (by decide)) (fun _ => ?_)
    refine f_iln 2 rfl hL rfl ?_
    refine f_aln 3 rfl hL rfl ?_
    refine f_iln 1 rfl hL rfl ?_
    refine f_iln 0 rfl hL rfl ?_
    refine m_k1 (t174 (a := 4) (b := 3) (by decide) (by decide) hwv h0 h1 h2) hw hm rfl rfl rfl (m_ar so53 hw rfl) rfl (fun hc2 hw2 hm2 => ?_)
    refine f_if rfl (bI_r _) (fun c1 => ?_) (fun c1 => ?_)
    · have c1 : (bI (rR0 w f1 f2 4 3) : Int) = (0 : Int) := c1
      refine f_s [fi (0), fi (s)] rfl rfl ?_
      refine f_iadd rfl ?_
      refine f_istn [(1, fi (s + 0)), (3, fi (3)), (2, fi (4)), (0, .ref 53)] rfl (by decide) hL rfl (fun L7 hL7 => ?_)
      refine f_inc 1 [(3, fi (4)), (1, fi (s + 0)), (2, fi (4)), (0, .ref 53)] rfl (by decide) hL7 rfl rfl (fun L8 hL8 => ?_)
      refine f_goto rfl ?_
      have e9 : bI (rR0 w f1 f2 4 3) = 0 := c1
      rw [show lC (rl23 w f1 f2) s = lC (rl24 w f1 f2) (s + bI (rR0 w f1 f2 4 3)) from rfl, e9]
      exact hK24 hc2 _ _ hw2 hm2 (hL8.sel [0, 2, 1, 3] rfl)
    · have c1 : ¬ ((bI (rR0 w f1 f2 4 3) : Int) = (0 : Int)) := c1
      refine f_s [fi (1), fi (s)] rfl rfl ?_
      refine f_goto rfl ?_
      refine f_iadd rfl ?_
      refine f_istn [(1, fi (s + 1)), (3, fi (3)), (2, fi (4)), (0, .ref 53)] rfl (by decide) hL rfl (fun L9 hL9 => ?_)
      refine f_inc 1 [(3, fi (4)), (1, fi (s + 1)), (2, fi (4)), (0, .ref 53)] rfl (by decide) hL9 rfl rfl (fun L10 hL10 => ?_)
      refine f_goto rfl ?_
      have e9 : bI (rR0 w f1 f2 4 3) = 1 := by rw [bI1 c1]; rfl
      rw [show lC (rl23 w f1 f2) s = lC (rl24 w f1 f2) (s + bI (rR0 w f1 f2 4 3)) from rfl, e9]
      exact hK24 hc2 _ _ hw2 hm2 (hL10.sel [0, 2, 1, 3] rfl)
  have hK22 : ∀ (hc : ev_H) (s : Int) (L : ev_L), y_in yGw hc → gi hc = m → f_L L [(3, fi (2)), (2, fi (4)), (1, fi (s)), (0, .ref 53)] → x_W none (1, 0, 4, 0, 2, 3, 67, 0, 0, ev_t175) 11 L [] hc 0 0 (fun r' h' => r' = some (fi (lC (rl22 w f1 f2) s)) ∧ y_in yGw h' ∧ gi h' = m) := fun hc s L hw hm hL => by
    refine f_iln 0 rfl hL rfl ?_
    refine f_s [fi (5), fi (2)] rfl rfl ?_
    refine f_ic rfl (by decide) (by decide) (fun c_9 => absurd (show (5 : Int) ≤ (2 : Int) from c_9) (by decide)) (fun _ => ?_)
    refine f_iln 2 rfl hL rfl ?_
    refine f_aln 3 rfl hL rfl ?_
    refine f_iln 1 rfl hL rfl ?_
    refine f_iln 0 rfl hL rfl ?_
    refine m_k1 (t174 (a := 4) (b := 2) (by decide) (by decide) hwv h0 h1 h2) hw hm rfl rfl rfl (m_ar so53 hw rfl) rfl (fun hc3 hw3 hm3 => ?_)
    refine f_if rfl (bI_r _) (fun c1 => ?_) (fun c1 => ?_)
    · have c1 : (bI (rR0 w f1 f2 4 2) : Int) = (0 : Int) := c1
      refine f_s [fi (0), fi (s)] rfl rfl ?_
      refine f_iadd rfl ?_
      refine f_istn [(1, fi (s + 0)), (3, fi (2)), (2, fi (4)), (0, .ref 53)] rfl (by decide) hL rfl (fun L11 hL11 => ?_)
      refine f_inc 1 [(3, fi (3)), (1, fi (s + 0)), (2, fi (4)), (0, .ref 53)] rfl (by decide) hL11 rfl rfl (fun L12 hL12 => ?_)
      refine f_goto rfl ?_
      have e9 : bI (rR0 w f1 f2 4 2) = 0 := c1
      rw [show lC (rl22 w f1 f2) s = lC (rl23 w f1 f2) (s + bI (rR0 w f1 f2 4 2)) from rfl, e9]
      exact hK23 hc3 _ _ hw3 hm3 (hL12.sel [0, 2, 1, 3] rfl)
    · have c1 : ¬ ((bI (rR0 w f1 f2 4 2) : Int) = (0 : Int)) := c1
      refine f_s [fi (1), fi (s)] rfl rfl ?_
      refine f_goto rfl ?_
      refine f_iadd rfl ?_
      refine f_istn [(1, fi (s + 1)), (3, fi (2)), (2, fi (4)), (0, .ref 53)] rfl (by decide) hL rfl (fun L13 hL13 => ?_)
      refine f_inc 1 [(3, fi (3)), (1, fi (s + 1)), (2, fi (4)), (0, .ref 53)] rfl (by decide) hL13 rfl rfl (fun L14 hL14 => ?_)
      refine f_goto rfl ?_
      have e9 : bI (rR0 w f1 f2 4 2) = 1 := by rw [bI1 c1]; rfl
      rw [show lC (rl22 w f1 f2) s = lC (rl23 w f1 f2) (s + bI (rR0 w f1 f2 4 2)) from rfl, e9]
      exact hK23 hc3 _ _ hw3 hm3 (hL14.sel [0, 2, 1, 3] rfl)
  have hK21 : ∀ (hc : ev_H) (s : Int) (L : ev_L), y_in yGw hc → gi hc = m → f_L L [(3, fi (1)), (2, fi (4)), (1, fi (s)), (0, .ref 53)] → x_W none (1, 0, 4, 0, 2, 3, 67, 0, 0, ev_t175) 11 L [] hc 0 0 (fun r' h' => r' = some (fi (lC (rl21 w f1 f2) s)) ∧ y_in yGw h' ∧ gi h' = m) := fun hc s L hw hm hL => by
    refine f_iln 0 rfl hL rfl ?_
    refine f_s [fi (5), fi (1)] rfl rfl ?_
    refine f_ic rfl (by decide) (by decide) (fun c_9 => absurd (show (5 : Int) ≤ (1 : Int) from c_9) (by decide)) (fun _ => ?_)
    refine f_iln 2 rfl hL rfl ?_
    refine f_aln 3 rfl hL rfl ?_
    refine f_iln 1 rfl hL rfl ?_
    refine f_iln 0 rfl hL rfl ?_
    refine m_k1 (t174 (a := 4) (b := 1) (by decide) (by decide) hwv h0 h1 h2) hw hm rfl rfl rfl (m_ar so53 hw rfl) rfl (fun hc4 hw4 hm4 => ?_)
    refine f_if rfl (bI_r _) (fun c1 => ?_) (fun c1 => ?_)
    · have c1 : (bI (rR0 w f1 f2 4 1) : Int) = (0 : Int) := c1
      refine f_s [fi (0), fi (s)] rfl rfl ?_
      refine f_iadd rfl ?_
      refine f_istn [(1, fi (s + 0)), (3, fi (1)), (2, fi (4)), (0, .ref 53)] rfl (by decide) hL rfl (fun L15 hL15 => ?_)
      refine f_inc 1 [(3, fi (2)), (1, fi (s + 0)), (2, fi (4)), (0, .ref 53)] rfl (by decide) hL15 rfl rfl (fun L16 hL16 => ?_)
      refine f_goto rfl ?_
      have e9 : bI (rR0 w f1 f2 4 1) = 0 := c1
      rw [show lC (rl21 w f1 f2) s = lC (rl22 w f1 f2) (s + bI (rR0 w f1 f2 4 1)) from rfl, e9]
      exact hK22 hc4 _ _ hw4 hm4 (hL16.sel [0, 2, 1, 3] rfl)
    · have c1 : ¬ ((bI (rR0 w f1 f2 4 1) : Int) = (0 : Int)) := c1
      refine f_s [fi (1), fi (s)] rfl rfl ?_
      refine f_goto rfl ?_
      refine f_iadd rfl ?_
      refine f_istn [(1, fi (s + 1)), (3, fi (1)), (2, fi (4)), (0, .ref 53)] rfl (by decide) hL rfl (fun L17 hL17 => ?_)
      refine f_inc 1 [(3, fi (2)), (1, fi (s + 1)), (2, fi (4)), (0, .ref 53)] rfl (by decide) hL17 rfl rfl (fun L18 hL18 => ?_)
      refine f_goto rfl ?_
      have e9 : bI (rR0 w f1 f2 4 1) = 1 := by rw [bI1 c1]; rfl
      rw [show lC (rl21 w f1 f2) s = lC (rl22 w f1 f2) (s + bI (rR0 w f1 f2 4 1)) from rfl, e9]
      exact hK22 hc4 _ _ hw4 hm4 (hL18.sel [0, 2, 1, 3] rfl)
  have hK20 : ∀ (hc : ev_H) (s : Int) (L : ev_L), y_in yGw hc → gi hc = m → f_L L [(3, fi (0)), (2, fi (4)), (1, fi (s)), (0, .ref 53)] → x_W none (1, 0, 4, 0, 2, 3, 67, 0, 0, ev_t175) 11 L [] hc 0 0 (fun r' h' => r' = some (fi (lC (rl20 w f1 f2) s)) ∧ y_in yGw h' ∧ gi h' = m) := fun hc s L hw hm hL => by
    refine f_iln 0 rfl hL rfl ?_
    refine f_s [fi (5), fi (0)] rfl rfl ?_
    refine f_ic rfl (by decide) (by decide) (fun c_9 => absurd (show (5 : Int) ≤ (0 : Int) from c_9) (by decide)) (fun _ => ?_)
    refine f_iln 2 rfl hL rfl ?_
    refine f_aln 3 rfl hL rfl ?_
    refine f_iln 1 rfl hL rfl ?_
    refine f_iln 0 rfl hL rfl ?_
    refine m_k1 (t174 (a := 4) (b := 0) (by decide) (by decide) hwv h0 h1 h2) hw hm rfl rfl rfl (m_ar so53 hw rfl) rfl (fun hc5 hw5 hm5 => ?_)
    refine f_if rfl (bI_r _) (fun c1 => ?_) (fun c1 => ?_)
    · have c1 : (bI (rR0 w f1 f2 4 0) : Int) = (0 : Int) := c1
      refine f_s [fi (0), fi (s)] rfl rfl ?_
      refine f_iadd rfl ?_
      refine f_istn [(1, fi (s + 0)), (3, fi (0)), (2, fi (4)), (0, .ref 53)] rfl (by decide) hL rfl (fun L19 hL19 => ?_)
      refine f_inc 1 [(3, fi (1)), (1, fi (s + 0)), (2, fi (4)), (0, .ref 53)] rfl (by decide) hL19 rfl rfl (fun L20 hL20 => ?_)
      refine f_goto rfl ?_
      have e9 : bI (rR0 w f1 f2 4 0) = 0 := c1
      rw [show lC (rl20 w f1 f2) s = lC (rl21 w f1 f2) (s + bI (rR0 w f1 f2 4 0)) from rfl, e9]
      exact hK21 hc5 _ _ hw5 hm5 (hL20.sel [0, 2, 1, 3] rfl)
    · have c1 : ¬ ((bI (rR0 w f1 f2 4 0) : Int) = (0 : Int)) := c1
      refine f_s [fi (1), fi (s)] rfl rfl ?_
      refine f_goto rfl ?_
      refine f_iadd rfl ?_
      refine f_istn [(1, fi (s + 1)), (3, fi (0)), (2, fi (4)), (0, .ref 53)] rfl (by decide) hL rfl (fun L21 hL21 => ?_)
      refine f_inc 1 [(3, fi (1)), (1, fi (s + 1)), (2, fi (4)), (0, .ref 53)] rfl (by decide) hL21 rfl rfl (fun L22 hL22 => ?_)
      refine f_goto rfl ?_
      have e9 : bI (rR0 w f1 f2 4 0) = 1 := by rw [bI1 c1]; rfl
      rw [show lC (rl20 w f1 f2) s = lC (rl21 w f1 f2) (s + bI (rR0 w f1 f2 4 0)) from rfl, e9]
      exact hK21 hc5 _ _ hw5 hm5 (hL22.sel [0, 2, 1, 3] rfl)
  have hK19 : ∀ (hc : ev_H) (s : Int) (L : ev_L), y_in yGw hc → gi hc = m → f_L L [(3, fi (4)), (2, fi (3)), (1, fi (s)), (0, .ref 53)] → x_W none (1, 0, 4, 0, 2, 3, 67, 0, 0, ev_t175) 11 L [] hc 0 0 (fun r' h' => r' = some (fi (lC (rl19 w f1 f2) s)) ∧ y_in yGw h' ∧ gi h' = m) := fun hc s L hw hm hL => by
    refine f_iln 0 rfl hL rfl ?_
    refine f_s [fi (5), fi (4)] rfl rfl ?_
    refine f_ic rfl (by decide) (by decide) (fun c_9 => absurd (show (5 : Int) ≤ (4 : Int) from c_9) (by decide)) (fun _ => ?_)
    refine f_iln 2 rfl hL rfl ?_
    refine f_aln 3 rfl hL rfl ?_
    refine f_iln 1 rfl hL rfl ?_
    refine f_iln 0 rfl hL rfl ?_
    refine m_k1 (t174 (a := 3) (b := 4) (by decide) (by decide) hwv h0 h1 h2) hw hm rfl rfl rfl (m_ar so53 hw rfl) rfl (fun hc6 hw6 hm6 => ?_)
    refine f_if rfl (bI_r _) (fun c1 => ?_) (fun c1 => ?_)
    · have c1 : (bI (rR0 w f1 f2 3 4) : Int) = (0 : Int) := c1
      refine f_s [fi (0), fi (s)] rfl rfl ?_
      refine f_iadd rfl ?_
      refine f_istn [(1, fi (s + 0)), (3, fi (4)), (2, fi (3)), (0, .ref 53)] rfl (by decide) hL rfl (fun L23 hL23 => ?_)
      refine f_inc 1 [(3, fi (5)), (1, fi (s + 0)), (2, fi (3)), (0, .ref 53)] rfl (by decide) hL23 rfl rfl (fun L24 hL24 => ?_)
      refine f_goto rfl ?_
      refine f_iln 0 rfl hL24 rfl ?_
      refine f_s [fi (5), fi (5)] rfl rfl ?_
      refine f_ic rfl (by decide) (by decide) (fun _ => ?_) (fun c_9 => absurd (show (5 : Int) ≤ (5 : Int) from (by decide)) c_9)
      refine f_inc 2 [(2, fi (4)), (3, fi (5)), (1, fi (s + 0)), (0, .ref 53)] rfl (by decide) hL24 rfl rfl (fun L25 hL25 => ?_)
      refine f_goto rfl ?_
      refine f_iln 0 rfl hL25 rfl ?_
      refine f_s [fi (5), fi (4)] rfl rfl ?_
      refine f_ic rfl (by decide) (by decide) (fun c_9 => absurd (show (5 : Int) ≤ (4 : Int) from c_9) (by decide)) (fun _ => ?_)
      refine f_s [fi (0)] rfl rfl ?_
      refine f_istn [(3, fi (0)), (2, fi (4)), (1, fi (s + 0)), (0, .ref 53)] rfl (by decide) hL25 rfl (fun L26 hL26 => ?_)
      have e9 : bI (rR0 w f1 f2 3 4) = 0 := c1
      rw [show lC (rl19 w f1 f2) s = lC (rl20 w f1 f2) (s + bI (rR0 w f1 f2 3 4)) from rfl, e9]
      exact hK20 hc6 _ _ hw6 hm6 (hL26.sel [0, 1, 2, 3] rfl)
    · have c1 : ¬ ((bI (rR0 w f1 f2 3 4) : Int) = (0 : Int)) := c1
      refine f_s [fi (1), fi (s)] rfl rfl ?_
      refine f_goto rfl ?_
      refine f_iadd rfl ?_
      refine f_istn [(1, fi (s + 1)), (3, fi (4)), (2, fi (3)), (0, .ref 53)] rfl (by decide) hL rfl (fun L27 hL27 => ?_)
      refine f_inc 1 [(3, fi (5)), (1, fi (s + 1)), (2, fi (3)), (0, .ref 53)] rfl (by decide) hL27 rfl rfl (fun L28 hL28 => ?_)
      refine f_goto rfl ?_
      refine f_iln 0 rfl hL28 rfl ?_
      refine f_s [fi (5), fi (5)] rfl rfl ?_
      refine f_ic rfl (by decide) (by decide) (fun _ => ?_) (fun c_9 => absurd (show (5 : Int) ≤ (5 : Int) from (by decide)) c_9)
      refine f_inc 2 [(2, fi (4)), (3, fi (5)), (1, fi (s + 1)), (0, .ref 53)] rfl (by decide) hL28 rfl rfl (fun L29 hL29 => ?_)
      refine f_goto rfl ?_
      refine f_iln 0 rfl hL29 rfl ?_
      refine f_s [fi (5), fi (4)] rfl rfl ?_
      refine f_ic rfl (by decide) (by decide) (fun c_9 => absurd (show (5 : Int) ≤ (4 : Int) from c_9) (by decide)) (fun _ => ?_)
      refine f_s [fi (0)] rfl rfl ?_
      refine f_istn [(3, fi (0)), (2, fi (4)), (1, fi (s + 1)), (0, .ref 53)] rfl (by decide) hL29 rfl (fun L30 hL30 => ?_)
      have e9 : bI (rR0 w f1 f2 3 4) = 1 := by rw [bI1 c1]; rfl
      rw [show lC (rl19 w f1 f2) s = lC (rl20 w f1 f2) (s + bI (rR0 w f1 f2 3 4)) from rfl, e9]
      exact hK20 hc6 _ _ hw6 hm6 (hL30.sel [0, 1, 2, 3] rfl)
  have hK18 : ∀ (hc : ev_H) (s : Int) (L : ev_L), y_in yGw hc → gi hc = m → f_L L [(3, fi (3)), (2, fi (3)), (1, fi (s)), (0, .ref 53)] → x_W none (1, 0, 4, 0, 2, 3, 67, 0, 0, ev_t175) 11 L [] hc 0 0 (fun r' h' => r' = some (fi (lC (rl18 w f1 f2) s)) ∧ y_in yGw h' ∧ gi h' = m) := fun hc s L hw hm hL => by
    refine f_iln 0 rfl hL rfl ?_
    refine f_s [fi (5), fi (3)] rfl rfl ?_
    refine f_ic rfl (by decide) (by decide) (fun c_9 => absurd (show (5 : Int) ≤ (3 : Int) from c_9) (by decide)) (fun _ => ?_)
    refine f_iln 2 rfl hL rfl ?_
    refine f_aln 3 rfl hL rfl ?_
    refine f_iln 1 rfl hL rfl ?_
    refine f_iln 0 rfl hL rfl ?_
    refine m_k1 (t174 (a := 3) (b := 3) (by decide) (by decide) hwv h0 h1 h2) hw hm rfl rfl rfl (m_ar so53 hw rfl) rfl (fun hc7 hw7 hm7 => ?_)
    refine f_if rfl (bI_r _) (fun c1 => ?_) (fun c1 => ?_)
    · have c1 : (bI (rR0 w f1 f2 3 3) : Int) = (0 : Int) := c1
      refine f_s [fi (0), fi (s)] rfl rfl ?_
      refine f_iadd rfl ?_
      refine f_istn [(1, fi (s + 0)), (3, fi (3)), (2, fi (3)), (0, .ref 53)] rfl (by decide) hL rfl (fun L31 hL31 => ?_)
      refine f_inc 1 [(3, fi (4)), (1, fi (s + 0)), (2, fi (3)), (0, .ref 53)] rfl (by decide) hL31 rfl rfl (fun L32 hL32 => ?_)
      refine f_goto rfl ?_
      have e9 : bI (rR0 w f1 f2 3 3) = 0 := c1
      rw [show lC (rl18 w f1 f2) s = lC (rl19 w f1 f2) (s + bI (rR0 w f1 f2 3 3)) from rfl, e9]
      exact hK19 hc7 _ _ hw7 hm7 (hL32.sel [0, 2, 1, 3] rfl)
    · have c1 : ¬ ((bI (rR0 w f1 f2 3 3) : Int) = (0 : Int)) := c1
      refine f_s [fi (1), fi (s)] rfl rfl ?_
      refine f_goto rfl ?_
      refine f_iadd rfl ?_
      refine f_istn [(1, fi (s + 1)), (3, fi (3)), (2, fi (3)), (0, .ref 53)] rfl (by decide) hL rfl (fun L33 hL33 => ?_)
      refine f_inc 1 [(3, fi (4)), (1, fi (s + 1)), (2, fi (3)), (0, .ref 53)] rfl (by decide) hL33 rfl rfl (fun L34 hL34 => ?_)
      refine f_goto rfl ?_
      have e9 : bI (rR0 w f1 f2 3 3) = 1 := by rw [bI1 c1]; rfl
      rw [show lC (rl18 w f1 f2) s = lC (rl19 w f1 f2) (s + bI (rR0 w f1 f2 3 3)) from rfl, e9]
      exact hK19 hc7 _ _ hw7 hm7 (hL34.sel [0, 2, 1, 3] rfl)
  have hK17 : ∀ (hc : ev_H) (s : Int) (L : ev_L), y_in yGw hc → gi hc = m → f_L L [(3, fi (2)), (2, fi (3)), (1, fi (s)), (0, .ref 53)] → x_W none (1, 0, 4, 0, 2, 3, 67, 0, 0, ev_t175) 11 L [] hc 0 0 (fun r' h' => r' = some (fi (lC (rl17 w f1 f2) s)) ∧ y_in yGw h' ∧ gi h' = m) := fun hc s L hw hm hL => by
    refine f_iln 0 rfl hL rfl ?_
    refine f_s [fi (5), fi (2)] rfl rfl ?_
    refine f_ic rfl (by decide) (by decide) (fun c_9 => absurd (show (5 : Int) ≤ (2 : Int) from c_9) (by decide)) (fun _ => ?_)
    refine f_iln 2 rfl hL rfl ?_
    refine f_aln 3 rfl hL rfl ?_
    refine f_iln 1 rfl hL rfl ?_
    refine f_iln 0 rfl hL rfl ?_
    refine m_k1 (t174 (a := 3) (b := 2) (by decide) (by decide) hwv h0 h1 h2) hw hm rfl rfl rfl (m_ar so53 hw rfl) rfl (fun hc8 hw8 hm8 => ?_)
    refine f_if rfl (bI_r _) (fun c1 => ?_) (fun c1 => ?_)
    · have c1 : (bI (rR0 w f1 f2 3 2) : Int) = (0 : Int) := c1
      refine f_s [fi (0), fi (s)] rfl rfl ?_
      refine f_iadd rfl ?_
      refine f_istn [(1, fi (s + 0)), (3, fi (2)), (2, fi (3)), (0, .ref 53)] rfl (by decide) hL rfl (fun L35 hL35 => ?_)
      refine f_inc 1 [(3, fi (3)), (1, fi (s + 0)), (2, fi (3)), (0, .ref 53)] rfl (by decide) hL35 rfl rfl (fun L36 hL36 => ?_)
      refine f_goto rfl ?_
      have e9 : bI (rR0 w f1 f2 3 2) = 0 := c1
      rw [show lC (rl17 w f1 f2) s = lC (rl18 w f1 f2) (s + bI (rR0 w f1 f2 3 2)) from rfl, e9]
      exact hK18 hc8 _ _ hw8 hm8 (hL36.sel [0, 2, 1, 3] rfl)
    · have c1 : ¬ ((bI (rR0 w f1 f2 3 2) : Int) = (0 : Int)) := c1
      refine f_s [fi (1), fi (s)] rfl rfl ?_
      refine f_goto rfl ?_
      refine f_iadd rfl ?_
      refine f_istn [(1, fi (s + 1)), (3, fi (2)), (2, fi (3)), (0, .ref 53)] rfl (by decide) hL rfl (fun L37 hL37 => ?_)
      refine f_inc 1 [(3, fi (3)), (1, fi (s + 1)), (2, fi (3)), (0, .ref 53)] rfl (by decide) hL37 rfl rfl (fun L38 hL38 => ?_)
      refine f_goto rfl ?_
      have e9 : bI (rR0 w f1 f2 3 2) = 1 := by rw [bI1 c1]; rfl
      rw [show lC (rl17 w f1 f2) s = lC (rl18 w f1 f2) (s + bI (rR0 w f1 f2 3 2)) from rfl, e9]
      exact hK18 hc8 _ _ hw8 hm8 (hL38.sel [0, 2, 1, 3] rfl)
  have hK16 : ∀ (hc : ev_H) (s : Int) (L : ev_L), y_in yGw hc → gi hc = m → f_L L [(3, fi (1)), (2, fi (3)), (1, fi (s)), (0, .ref 53)] → x_W none (1, 0, 4, 0, 2, 3, 67, 0, 0, ev_t175) 11 L [] hc 0 0 (fun r' h' => r' = some (fi (lC (rl16 w f1 f2) s)) ∧ y_in yGw h' ∧ gi h' = m) := fun hc s L hw hm hL => by
    refine f_iln 0 rfl hL rfl ?_
    refine f_s [fi (5), fi (1)] rfl rfl ?_
    refine f_ic rfl (by decide) (by decide) (fun c_9 => absurd (show (5 : Int) ≤ (1 : Int) from c_9) (by decide)) (fun _ => ?_)
    refine f_iln 2 rfl hL rfl ?_
    refine f_aln 3 rfl hL rfl ?_
    refine f_iln 1 rfl hL rfl ?_
    refine f_iln 0 rfl hL rfl ?_
    refine m_k1 (t174 (a := 3) (b := 1) (by decide) (by decide) hwv h0 h1 h2) hw hm rfl rfl rfl (m_ar so53 hw rfl) rfl (fun hc9 hw9 hm9 => ?_)
    refine f_if rfl (bI_r _) (fun c1 => ?_) (fun c1 => ?_)
    · have c1 : (bI (rR0 w f1 f2 3 1) : Int) = (0 : Int) := c1
      refine f_s [fi (0), fi (s)] rfl rfl ?_
      refine f_iadd rfl ?_
      refine f_istn [(1, fi (s + 0)), (3, fi (1)), (2, fi (3)), (0, .ref 53)] rfl (by decide) hL rfl (fun L39 hL39 => ?_)
      refine f_inc 1 [(3, fi (2)), (1, fi (s + 0)), (2, fi (3)), (0, .ref 53)] rfl (by decide) hL39 rfl rfl (fun L40 hL40 => ?_)
      refine f_goto rfl ?_
      have e9 : bI (rR0 w f1 f2 3 1) = 0 := c1
      rw [show lC (rl16 w f1 f2) s = lC (rl17 w f1 f2) (s + bI (rR0 w f1 f2 3 1)) from rfl, e9]
      exact hK17 hc9 _ _ hw9 hm9 (hL40.sel [0, 2, 1, 3] rfl)
    · have c1 : ¬ ((bI (rR0 w f1 f2 3 1) : Int) = (0 : Int)) := c1
      refine f_s [fi (1), fi (s)] rfl rfl ?_
      refine f_goto rfl ?_
      refine f_iadd rfl ?_
      refine f_istn [(1, fi (s + 1)), (3, fi (1)), (2, fi (3)), (0, .ref 53)] rfl (by decide) hL rfl (fun L41 hL41 => ?_)
      refine f_inc 1 [(3, fi (2)), (1, fi (s + 1)), (2, fi (3)), (0, .ref 53)] rfl (by decide) hL41 rfl rfl (fun L42 hL42 => ?_)
      refine f_goto rfl ?_
      have e9 : bI (rR0 w f1 f2 3 1) = 1 := by rw [bI1 c1]; rfl
      rw [show lC (rl16 w f1 f2) s = lC (rl17 w f1 f2) (s + bI (rR0 w f1 f2 3 1)) from rfl, e9]
      exact hK17 hc9 _ _ hw9 hm9 (hL42.sel [0, 2, 1, 3] rfl)
  have hK15 : ∀ (hc : ev_H) (s : Int) (L : ev_L), y_in yGw hc → gi hc = m → f_L L [(3, fi (0)), (2, fi (3)), (1, fi (s)), (0, .ref 53)] → x_W none (1, 0, 4, 0, 2, 3, 67, 0, 0, ev_t175) 11 L [] hc 0 0 (fun r' h' => r' = some (fi (lC (rl15 w f1 f2) s)) ∧ y_in yGw h' ∧ gi h' = m) := fun hc s L hw hm hL => by
    refine f_iln 0 rfl hL rfl ?_
    refine f_s [fi (5), fi (0)] rfl rfl ?_
    refine f_ic rfl (by decide) (by decide) (fun c_9 => absurd (show (5 : Int) ≤ (0 : Int) from c_9) (by decide)) (fun _ => ?_)
    refine f_iln 2 rfl hL rfl ?_
    refine f_aln 3 rfl hL rfl ?_
    refine f_iln 1 rfl hL rfl ?_
    refine f_iln 0 rfl hL rfl ?_
    refine m_k1 (t174 (a := 3) (b := 0) (by decide) (by decide) hwv h0 h1 h2) hw hm rfl rfl rfl (m_ar so53 hw rfl) rfl (fun hc10 hw10 hm10 => ?_)
    refine f_if rfl (bI_r _) (fun c1 => ?_) (fun c1 => ?_)
    · have c1 : (bI (rR0 w f1 f2 3 0) : Int) = (0 : Int) := c1
      refine f_s [fi (0), fi (s)] rfl rfl ?_
      refine f_iadd rfl ?_
      refine f_istn [(1, fi (s + 0)), (3, fi (0)), (2, fi (3)), (0, .ref 53)] rfl (by decide) hL rfl (fun L43 hL43 => ?_)
      refine f_inc 1 [(3, fi (1)), (1, fi (s + 0)), (2, fi (3)), (0, .ref 53)] rfl (by decide) hL43 rfl rfl (fun L44 hL44 => ?_)
      refine f_goto rfl ?_
      have e9 : bI (rR0 w f1 f2 3 0) = 0 := c1
      rw [show lC (rl15 w f1 f2) s = lC (rl16 w f1 f2) (s + bI (rR0 w f1 f2 3 0)) from rfl, e9]
      exact hK16 hc10 _ _ hw10 hm10 (hL44.sel [0, 2, 1, 3] rfl)
    · have c1 : ¬ ((bI (rR0 w f1 f2 3 0) : Int) = (0 : Int)) := c1
      refine f_s [fi (1), fi (s)] rfl rfl ?_
      refine f_goto rfl ?_
      refine f_iadd rfl ?_
      refine f_istn [(1, fi (s + 1)), (3, fi (0)), (2, fi (3)), (0, .ref 53)] rfl (by decide) hL rfl (fun L45 hL45 => ?_)
      refine f_inc 1 [(3, fi (1)), (1, fi (s + 1)), (2, fi (3)), (0, .ref 53)] rfl (by decide) hL45 rfl rfl (fun L46 hL46 => ?_)
      refine f_goto rfl ?_
      have e9 : bI (rR0 w f1 f2 3 0) = 1 := by rw [bI1 c1]; rfl
      rw [show lC (rl15 w f1 f2) s = lC (rl16 w f1 f2) (s + bI (rR0 w f1 f2 3 0)) from rfl, e9]
      exact hK16 hc10 _ _ hw10 hm10 (hL46.sel [0, 2, 1, 3] rfl)
  have hK14 : ∀ (hc : ev_H) (s : Int) (L : ev_L), y_in yGw hc → gi hc = m → f_L L [(3, fi (4)), (2, fi (2)), (1, fi (s)), (0, .ref 53)] → x_W none (1, 0, 4, 0, 2, 3, 67, 0, 0, ev_t175) 11 L [] hc 0 0 (fun r' h' => r' = some (fi (lC (rl14 w f1 f2) s)) ∧ y_in yGw h' ∧ gi h' = m) := fun hc s L hw hm hL => by
    refine f_iln 0 rfl hL rfl ?_
    refine f_s [fi (5), fi (4)] rfl rfl ?_
    refine f_ic rfl (by decide) (by decide) (fun c_9 => absurd (show (5 : Int) ≤ (4 : Int) from c_9) (by decide)) (fun _ => ?_)
    refine f_iln 2 rfl hL rfl ?_
    refine f_aln 3 rfl hL rfl ?_
    refine f_iln 1 rfl hL rfl ?_
    refine f_iln 0 rfl hL rfl ?_
    refine m_k1 (t174 (a := 2) (b := 4) (by decide) (by decide) hwv h0 h1 h2) hw hm rfl rfl rfl (m_ar so53 hw rfl) rfl (fun hc11 hw11 hm11 => ?_)
    refine f_if rfl (bI_r _) (fun c1 => ?_) (fun c1 => ?_)
    · have c1 : (bI (rR0 w f1 f2 2 4) : Int) = (0 : Int) := c1
      refine f_s [fi (0), fi (s)] rfl rfl ?_
      refine f_iadd rfl ?_
      refine f_istn [(1, fi (s + 0)), (3, fi (4)), (2, fi (2)), (0, .ref 53)] rfl (by decide) hL rfl (fun L47 hL47 => ?_)
      refine f_inc 1 [(3, fi (5)), (1, fi (s + 0)), (2, fi (2)), (0, .ref 53)] rfl (by decide) hL47 rfl rfl (fun L48 hL48 => ?_)
      refine f_goto rfl ?_
      refine f_iln 0 rfl hL48 rfl ?_
      refine f_s [fi (5), fi (5)] rfl rfl ?_
      refine f_ic rfl (by decide) (by decide) (fun _ => ?_) (fun c_9 => absurd (show (5 : Int) ≤ (5 : Int) from (by decide)) c_9)
      refine f_inc 2 [(2, fi (3)), (3, fi (5)), (1, fi (s + 0)), (0, .ref 53)] rfl (by decide) hL48 rfl rfl (fun L49 hL49 => ?_)
      refine f_goto rfl ?_
      refine f_iln 0 rfl hL49 rfl ?_
      refine f_s [fi (5), fi (3)] rfl rfl ?_
      refine f_ic rfl (by decide) (by decide) (fun c_9 => absurd (show (5 : Int) ≤ (3 : Int) from c_9) (by decide)) (fun _ => ?_)
      refine f_s [fi (0)] rfl rfl ?_
      refine f_istn [(3, fi (0)), (2, fi (3)), (1, fi (s + 0)), (0, .ref 53)] rfl (by decide) hL49 rfl (fun L50 hL50 => ?_)
      have e9 : bI (rR0 w f1 f2 2 4) = 0 := c1
      rw [show lC (rl14 w f1 f2) s = lC (rl15 w f1 f2) (s + bI (rR0 w f1 f2 2 4)) from rfl, e9]
      exact hK15 hc11 _ _ hw11 hm11 (hL50.sel [0, 1, 2, 3] rfl)
    · have c1 : ¬ ((bI (rR0 w f1 f2 2 4) : Int) = (0 : Int)) := c1
      refine f_s [fi (1), fi (s)] rfl rfl ?_
      refine f_goto rfl ?_
      refine f_iadd rfl ?_
      refine f_istn [(1, fi (s + 1)), (3, fi (4)), (2, fi (2)), (0, .ref 53)] rfl (by decide) hL rfl (fun L51 hL51 => ?_)
      refine f_inc 1 [(3, fi (5)), (1, fi (s + 1)), (2, fi (2)), (0, .ref 53)] rfl (by decide) hL51 rfl rfl (fun L52 hL52 => ?_)
      refine f_goto rfl ?_
      refine f_iln 0 rfl hL52 rfl ?_
      refine f_s [fi (5), fi (5)] rfl rfl ?_
      refine f_ic rfl (by decide) (by decide) (fun _ => ?_) (fun c_9 => absurd (show (5 : Int) ≤ (5 : Int) from (by decide)) c_9)
      refine f_inc 2 [(2, fi (3)), (3, fi (5)), (1, fi (s + 1)), (0, .ref 53)] rfl (by decide) hL52 rfl rfl (fun L53 hL53 => ?_)
      refine f_goto rfl ?_
      refine f_iln 0 rfl hL53 rfl ?_
      refine f_s [fi (5), fi (3)] rfl rfl ?_
      refine f_ic rfl (by decide) (by decide) (fun c_9 => absurd (show (5 : Int) ≤ (3 : Int) from c_9) (by decide)) (fun _ => ?_)
      refine f_s [fi (0)] rfl rfl ?_
      refine f_istn [(3, fi (0)), (2, fi (3)), (1, fi (s + 1)), (0, .ref 53)] rfl (by decide) hL53 rfl (fun L54 hL54 => ?_)
      have e9 : bI (rR0 w f1 f2 2 4) = 1 := by rw [bI1 c1]; rfl
      rw [show lC (rl14 w f1 f2) s = lC (rl15 w f1 f2) (s + bI (rR0 w f1 f2 2 4)) from rfl, e9]
      exact hK15 hc11 _ _ hw11 hm11 (hL54.sel [0, 1, 2, 3] rfl)
  have hK13 : ∀ (hc : ev_H) (s : Int) (L : ev_L), y_in yGw hc → gi hc = m → f_L L [(3, fi (3)), (2, fi (2)), (1, fi (s)), (0, .ref 53)] → x_W none (1, 0, 4, 0, 2, 3, 67, 0, 0, ev_t175) 11 L [] hc 0 0 (fun r' h' => r' = some (fi (lC (rl13 w f1 f2) s)) ∧ y_in yGw h' ∧ gi h' = m) := fun hc s L hw hm hL => by
    refine f_iln 0 rfl hL rfl ?_
    refine f_s [fi (5), fi (3)] rfl rfl ?_
    refine f_ic rfl (by decide) (by decide) (fun c_9 => absurd (show (5 : Int) ≤ (3 : Int) from c_9) (by decide)) (fun _ => ?_)
    refine f_iln 2 rfl hL rfl ?_
    refine f_aln 3 rfl hL rfl ?_
    refine f_iln 1 rfl hL rfl ?_
    refine f_iln 0 rfl hL rfl ?_
    refine m_k1 (t174 (a := 2) (b := 3) (by decide) (by decide) hwv h0 h1 h2) hw hm rfl rfl rfl (m_ar so53 hw rfl) rfl (fun hc12 hw12 hm12 => ?_)
    refine f_if rfl (bI_r _) (fun c1 => ?_) (fun c1 => ?_)
    · have c1 : (bI (rR0 w f1 f2 2 3) : Int) = (0 : Int) := c1
      refine f_s [fi (0), fi (s)] rfl rfl ?_
      refine f_iadd rfl ?_
      refine f_istn [(1, fi (s + 0)), (3, fi (3)), (2, fi (2)), (0, .ref 53)] rfl (by decide) hL rfl (fun L55 hL55 => ?_)
      refine f_inc 1 [(3, fi (4)), (1, fi (s + 0)), (2, fi (2)), (0, .ref 53)] rfl (by decide) hL55 rfl rfl (fun L56 hL56 => ?_)
      refine f_goto rfl ?_
      have e9 : bI (rR0 w f1 f2 2 3) = 0 := c1
      rw [show lC (rl13 w f1 f2) s = lC (rl14 w f1 f2) (s + bI (rR0 w f1 f2 2 3)) from rfl, e9]
      exact hK14 hc12 _ _ hw12 hm12 (hL56.sel [0, 2, 1, 3] rfl)
    · have c1 : ¬ ((bI (rR0 w f1 f2 2 3) : Int) = (0 : Int)) := c1
      refine f_s [fi (1), fi (s)] rfl rfl ?_
      refine f_goto rfl ?_
      refine f_iadd rfl ?_
      refine f_istn [(1, fi (s + 1)), (3, fi (3)), (2, fi (2)), (0, .ref 53)] rfl (by decide) hL rfl (fun L57 hL57 => ?_)
      refine f_inc 1 [(3, fi (4)), (1, fi (s + 1)), (2, fi (2)), (0, .ref 53)] rfl (by decide) hL57 rfl rfl (fun L58 hL58 => ?_)
      refine f_goto rfl ?_
      have e9 : bI (rR0 w f1 f2 2 3) = 1 := by rw [bI1 c1]; rfl
      rw [show lC (rl13 w f1 f2) s = lC (rl14 w f1 f2) (s + bI (rR0 w f1 f2 2 3)) from rfl, e9]
      exact hK14 hc12 _ _ hw12 hm12 (hL58.sel [0, 2, 1, 3] rfl)
  have hK12 : ∀ (hc : ev_H) (s : Int) (L : ev_L), y_in yGw hc → gi hc = m → f_L L [(3, fi (2)), (2, fi (2)), (1, fi (s)), (0, .ref 53)] → x_W none (1, 0, 4, 0, 2, 3, 67, 0, 0, ev_t175) 11 L [] hc 0 0 (fun r' h' => r' = some (fi (lC (rl12 w f1 f2) s)) ∧ y_in yGw h' ∧ gi h' = m) := fun hc s L hw hm hL => by
    refine f_iln 0 rfl hL rfl ?_
    refine f_s [fi (5), fi (2)] rfl rfl ?_
    refine f_ic rfl (by decide) (by decide) (fun c_9 => absurd (show (5 : Int) ≤ (2 : Int) from c_9) (by decide)) (fun _ => ?_)
    refine f_iln 2 rfl hL rfl ?_
    refine f_aln 3 rfl hL rfl ?_
    refine f_iln 1 rfl hL rfl ?_
    refine f_iln 0 rfl hL rfl ?_
    refine m_k1 (t174 (a := 2) (b := 2) (by decide) (by decide) hwv h0 h1 h2) hw hm rfl rfl rfl (m_ar so53 hw rfl) rfl (fun hc13 hw13 hm13 => ?_)
    refine f_if rfl (bI_r _) (fun c1 => ?_) (fun c1 => ?_)
    · have c1 : (bI (rR0 w f1 f2 2 2) : Int) = (0 : Int) := c1
      refine f_s [fi (0), fi (s)] rfl rfl ?_
      refine f_iadd rfl ?_
      refine f_istn [(1, fi (s + 0)), (3, fi (2)), (2, fi (2)), (0, .ref 53)] rfl (by decide) hL rfl (fun L59 hL59 => ?_)
      refine f_inc 1 [(3, fi (3)), (1, fi (s + 0)), (2, fi (2)), (0, .ref 53)] rfl (by decide) hL59 rfl rfl (fun L60 hL60 => ?_)
      refine f_goto rfl ?_
      have e9 : bI (rR0 w f1 f2 2 2) = 0 := c1
      rw [show lC (rl12 w f1 f2) s = lC (rl13 w f1 f2) (s + bI (rR0 w f1 f2 2 2)) from rfl, e9]
      exact hK13 hc13 _ _ hw13 hm13 (hL60.sel [0, 2, 1, 3] rfl)
    · have c1 : ¬ ((bI (rR0 w f1 f2 2 2) : Int) = (0 : Int)) := c1
      refine f_s [fi (1), fi (s)] rfl rfl ?_
      refine f_goto rfl ?_
      refine f_iadd rfl ?_
      refine f_istn [(1, fi (s + 1)), (3, fi (2)), (2, fi (2)), (0, .ref 53)] rfl (by decide) hL rfl (fun L61 hL61 => ?_)
      refine f_inc 1 [(3, fi (3)), (1, fi (s + 1)), (2, fi (2)), (0, .ref 53)] rfl (by decide) hL61 rfl rfl (fun L62 hL62 => ?_)
      refine f_goto rfl ?_
      have e9 : bI (rR0 w f1 f2 2 2) = 1 := by rw [bI1 c1]; rfl
      rw [show lC (rl12 w f1 f2) s = lC (rl13 w f1 f2) (s + bI (rR0 w f1 f2 2 2)) from rfl, e9]
      exact hK13 hc13 _ _ hw13 hm13 (hL62.sel [0, 2, 1, 3] rfl)
  have hK11 : ∀ (hc : ev_H) (s : Int) (L : ev_L), y_in yGw hc → gi hc = m → f_L L [(3, fi (1)), (2, fi (2)), (1, fi (s)), (0, .ref 53)] → x_W none (1, 0, 4, 0, 2, 3, 67, 0, 0, ev_t175) 11 L [] hc 0 0 (fun r' h' => r' = some (fi (lC (rl11 w f1 f2) s)) ∧ y_in yGw h' ∧ gi h' = m) := fun hc s L hw hm hL => by
    refine f_iln 0 rfl hL rfl ?_
    refine f_s [fi (5), fi (1)] rfl rfl ?_
    refine f_ic rfl (by decide) (by decide) (fun c_9 => absurd (show (5 : Int) ≤ (1 : Int) from c_9) (by decide)) (fun _ => ?_)
    refine f_iln 2 rfl hL rfl ?_
    refine f_aln 3 rfl hL rfl ?_
    refine f_iln 1 rfl hL rfl ?_
    refine f_iln 0 rfl hL rfl ?_
    refine m_k1 (t174 (a := 2) (b := 1) (by decide) (by decide) hwv h0 h1 h2) hw hm rfl rfl rfl (m_ar so53 hw rfl) rfl (fun hc14 hw14 hm14 => ?_)
    refine f_if rfl (bI_r _) (fun c1 => ?_) (fun c1 => ?_)
    · have c1 : (bI (rR0 w f1 f2 2 1) : Int) = (0 : Int) := c1
      refine f_s [fi (0), fi (s)] rfl rfl ?_
      refine f_iadd rfl ?_
      refine f_istn [(1, fi (s + 0)), (3, fi (1)), (2, fi (2)), (0, .ref 53)] rfl (by decide) hL rfl (fun L63 hL63 => ?_)
      refine f_inc 1 [(3, fi (2)), (1, fi (s + 0)), (2, fi (2)), (0, .ref 53)] rfl (by decide) hL63 rfl rfl (fun L64 hL64 => ?_)
      refine f_goto rfl ?_
      have e9 : bI (rR0 w f1 f2 2 1) = 0 := c1
      rw [show lC (rl11 w f1 f2) s = lC (rl12 w f1 f2) (s + bI (rR0 w f1 f2 2 1)) from rfl, e9]
      exact hK12 hc14 _ _ hw14 hm14 (hL64.sel [0, 2, 1, 3] rfl)
    · have c1 : ¬ ((bI (rR0 w f1 f2 2 1) : Int) = (0 : Int)) := c1
      refine f_s [fi (1), fi (s)] rfl rfl ?_
      refine f_goto rfl ?_
      refine f_iadd rfl ?_
      refine f_istn [(1, fi (s + 1)), (3, fi (1)), (2, fi (2)), (0, .ref 53)] rfl (by decide) hL rfl (fun L65 hL65 => ?_)
      refine f_inc 1 [(3, fi (2)), (1, fi (s + 1)), (2, fi (2)), (0, .ref 53)] rfl (by decide) hL65 rfl rfl (fun L66 hL66 => ?_)
      refine f_goto rfl ?_
      have e9 : bI (rR0 w f1 f2 2 1) = 1 := by rw [bI1 c1]; rfl
      rw [show lC (rl11 w f1 f2) s = lC (rl12 w f1 f2) (s + bI (rR0 w f1 f2 2 1)) from rfl, e9]
      exact hK12 hc14 _ _ hw14 hm14 (hL66.sel [0, 2, 1, 3] rfl)
  have hK10 : ∀ (hc : ev_H) (s : Int) (L : ev_L), y_in yGw hc → gi hc = m → f_L L [(3, fi (0)), (2, fi (2)), (1, fi (s)), (0, .ref 53)] → x_W none (1, 0, 4, 0, 2, 3, 67, 0, 0, ev_t175) 11 L [] hc 0 0 (fun r' h' => r' = some (fi (lC (rl10 w f1 f2) s)) ∧ y_in yGw h' ∧ gi h' = m) := fun hc s L hw hm hL => by
    refine f_iln 0 rfl hL rfl ?_
    refine f_s [fi (5), fi (0)] rfl rfl ?_
    refine f_ic rfl (by decide) (by decide) (fun c_9 => absurd (show (5 : Int) ≤ (0 : Int) from c_9) (by decide)) (fun _ => ?_)
    refine f_iln 2 rfl hL rfl ?_
    refine f_aln 3 rfl hL rfl ?_
    refine f_iln 1 rfl hL rfl ?_
    refine f_iln 0 rfl hL rfl ?_
    refine m_k1 (t174 (a := 2) (b := 0) (by decide) (by decide) hwv h0 h1 h2) hw hm rfl rfl rfl (m_ar so53 hw rfl) rfl (fun hc15 hw15 hm15 => ?_)
    refine f_if rfl (bI_r _) (fun c1 => ?_) (fun c1 => ?_)
    · have c1 : (bI (rR0 w f1 f2 2 0) : Int) = (0 : Int) := c1
      refine f_s [fi (0), fi (s)] rfl rfl ?_
      refine f_iadd rfl ?_
      refine f_istn [(1, fi (s + 0)), (3, fi (0)), (2, fi (2)), (0, .ref 53)] rfl (by decide) hL rfl (fun L67 hL67 => ?_)
      refine f_inc 1 [(3, fi (1)), (1, fi (s + 0)), (2, fi (2)), (0, .ref 53)] rfl (by decide) hL67 rfl rfl (fun L68 hL68 => ?_)
      refine f_goto rfl ?_
      have e9 : bI (rR0 w f1 f2 2 0) = 0 := c1
      rw [show lC (rl10 w f1 f2) s = lC (rl11 w f1 f2) (s + bI (rR0 w f1 f2 2 0)) from rfl, e9]
      exact hK11 hc15 _ _ hw15 hm15 (hL68.sel [0, 2, 1, 3] rfl)
    · have c1 : ¬ ((bI (rR0 w f1 f2 2 0) : Int) = (0 : Int)) := c1
      refine f_s [fi (1), fi (s)] rfl rfl ?_
      refine f_goto rfl ?_
      refine f_iadd rfl ?_
      refine f_istn [(1, fi (s + 1)), (3, fi (0)), (2, fi (2)), (0, .ref 53)] rfl (by decide) hL rfl (fun L69 hL69 => ?_)
      refine f_inc 1 [(3, fi (1)), (1, fi (s + 1)), (2, fi (2)), (0, .ref 53)] rfl (by decide) hL69 rfl rfl (fun L70 hL70 => ?_)
      refine f_goto rfl ?_
      have e9 : bI (rR0 w f1 f2 2 0) = 1 := by rw [bI1 c1]; rfl
      rw [show lC (rl10 w f1 f2) s = lC (rl11 w f1 f2) (s + bI (rR0 w f1 f2 2 0)) from rfl, e9]
      exact hK11 hc15 _ _ hw15 hm15 (hL70.sel [0, 2, 1, 3] rfl)
  have hK9 : ∀ (hc : ev_H) (s : Int) (L : ev_L), y_in yGw hc → gi hc = m → f_L L [(3, fi (4)), (2, fi (1)), (1, fi (s)), (0, .ref 53)] → x_W none (1, 0, 4, 0, 2, 3, 67, 0, 0, ev_t175) 11 L [] hc 0 0 (fun r' h' => r' = some (fi (lC (rl9 w f1 f2) s)) ∧ y_in yGw h' ∧ gi h' = m) := fun hc s L hw hm hL => by
    refine f_iln 0 rfl hL rfl ?_
    refine f_s [fi (5), fi (4)] rfl rfl ?_
    refine f_ic rfl (by decide) (by decide) (fun c_9 => absurd (show (5 : Int) ≤ (4 : Int) from c_9) (by decide)) (fun _ => ?_)
    refine f_iln 2 rfl hL rfl ?_
    refine f_aln 3 rfl hL rfl ?_
    refine f_iln 1 rfl hL rfl ?_
    refine f_iln 0 rfl hL rfl ?_
    refine m_k1 (t174 (a := 1) (b := 4) (by decide) (by decide) hwv h0 h1 h2) hw hm rfl rfl rfl (m_ar so53 hw rfl) rfl (fun hc16 hw16 hm16 => ?_)
    refine f_if rfl (bI_r _) (fun c1 => ?_) (fun c1 => ?_)
    · have c1 : (bI (rR0 w f1 f2 1 4) : Int) = (0 : Int) := c1
      refine f_s [fi (0), fi (s)] rfl rfl ?_
      refine f_iadd rfl ?_
      refine f_istn [(1, fi (s + 0)), (3, fi (4)), (2, fi (1)), (0, .ref 53)] rfl (by decide) hL rfl (fun L71 hL71 => ?_)
      refine f_inc 1 [(3, fi (5)), (1, fi (s + 0)), (2, fi (1)), (0, .ref 53)] rfl (by decide) hL71 rfl rfl (fun L72 hL72 => ?_)
      refine f_goto rfl ?_
      refine f_iln 0 rfl hL72 rfl ?_
      refine f_s [fi (5), fi (5)] rfl rfl ?_
      refine f_ic rfl (by decide) (by decide) (fun _ => ?_) (fun c_9 => absurd (show (5 : Int) ≤ (5 : Int) from (by decide)) c_9)
      refine f_inc 2 [(2, fi (2)), (3, fi (5)), (1, fi (s + 0)), (0, .ref 53)] rfl (by decide) hL72 rfl rfl (fun L73 hL73 => ?_)
      refine f_goto rfl ?_
      refine f_iln 0 rfl hL73 rfl ?_
      refine f_s [fi (5), fi (2)] rfl rfl ?_
      refine f_ic rfl (by decide) (by decide) (fun c_9 => absurd (show (5 : Int) ≤ (2 : Int) from c_9) (by decide)) (fun _ => ?_)
      refine f_s [fi (0)] rfl rfl ?_
      refine f_istn [(3, fi (0)), (2, fi (2)), (1, fi (s + 0)), (0, .ref 53)] rfl (by decide) hL73 rfl (fun L74 hL74 => ?_)
      have e9 : bI (rR0 w f1 f2 1 4) = 0 := c1
      rw [show lC (rl9 w f1 f2) s = lC (rl10 w f1 f2) (s + bI (rR0 w f1 f2 1 4)) from rfl, e9]
      exact hK10 hc16 _ _ hw16 hm16 (hL74.sel [0, 1, 2, 3] rfl)
    · have c1 : ¬ ((bI (rR0 w f1 f2 1 4) : Int) = (0 : Int)) := c1
      refine f_s [fi (1), fi (s)] rfl rfl ?_
      refine f_goto rfl ?_
      refine f_iadd rfl ?_
      refine f_istn [(1, fi (s + 1)), (3, fi (4)), (2, fi (1)), (0, .ref 53)] rfl (by decide) hL rfl (fun L75 hL75 => ?_)
      refine f_inc 1 [(3, fi (5)), (1, fi (s + 1)), (2, fi (1)), (0, .ref 53)] rfl (by decide) hL75 rfl rfl (fun L76 hL76 => ?_)
      refine f_goto rfl ?_
      refine f_iln 0 rfl hL76 rfl ?_
      refine f_s [fi (5), fi (5)] rfl rfl ?_
      refine f_ic rfl (by decide) (by decide) (fun _ => ?_) (fun c_9 => absurd (show (5 : Int) ≤ (5 : Int) from (by decide)) c_9)
      refine f_inc 2 [(2, fi (2)), (3, fi (5)), (1, fi (s + 1)), (0, .ref 53)] rfl (by decide) hL76 rfl rfl (fun L77 hL77 => ?_)
      refine f_goto rfl ?_
      refine f_iln 0 rfl hL77 rfl ?_
      refine f_s [fi (5), fi (2)] rfl rfl ?_
      refine f_ic rfl (by decide) (by decide) (fun c_9 => absurd (show (5 : Int) ≤ (2 : Int) from c_9) (by decide)) (fun _ => ?_)
      refine f_s [fi (0)] rfl rfl ?_
      refine f_istn [(3, fi (0)), (2, fi (2)), (1, fi (s + 1)), (0, .ref 53)] rfl (by decide) hL77 rfl (fun L78 hL78 => ?_)
      have e9 : bI (rR0 w f1 f2 1 4) = 1 := by rw [bI1 c1]; rfl
      rw [show lC (rl9 w f1 f2) s = lC (rl10 w f1 f2) (s + bI (rR0 w f1 f2 1 4)) from rfl, e9]
      exact hK10 hc16 _ _ hw16 hm16 (hL78.sel [0, 1, 2, 3] rfl)
  have hK8 : ∀ (hc : ev_H) (s : Int) (L : ev_L), y_in yGw hc → gi hc = m → f_L L [(3, fi (3)), (2, fi (1)), (1, fi (s)), (0, .ref 53)] → x_W none (1, 0, 4, 0, 2, 3, 67, 0, 0, ev_t175) 11 L [] hc 0 0 (fun r' h' => r' = some (fi (lC (rl8 w f1 f2) s)) ∧ y_in yGw h' ∧ gi h' = m) := fun hc s L hw hm hL => by
    refine f_iln 0 rfl hL rfl ?_
    refine f_s [fi (5), fi (3)] rfl rfl ?_
    refine f_ic rfl (by decide) (by decide) (fun c_9 => absurd (show (5 : Int) ≤ (3 : Int) from c_9) (by decide)) (fun _ => ?_)
    refine f_iln 2 rfl hL rfl ?_
    refine f_aln 3 rfl hL rfl ?_
    refine f_iln 1 rfl hL rfl ?_
    refine f_iln 0 rfl hL rfl ?_
    refine m_k1 (t174 (a := 1) (b := 3) (by decide) (by decide) hwv h0 h1 h2) hw hm rfl rfl rfl (m_ar so53 hw rfl) rfl (fun hc17 hw17 hm17 => ?_)
    refine f_if rfl (bI_r _) (fun c1 => ?_) (fun c1 => ?_)
    · have c1 : (bI (rR0 w f1 f2 1 3) : Int) = (0 : Int) := c1
      refine f_s [fi (0), fi (s)] rfl rfl ?_
      refine f_iadd rfl ?_
      refine f_istn [(1, fi (s + 0)), (3, fi (3)), (2, fi (1)), (0, .ref 53)] rfl (by decide) hL rfl (fun L79 hL79 => ?_)
      refine f_inc 1 [(3, fi (4)), (1, fi (s + 0)), (2, fi (1)), (0, .ref 53)] rfl (by decide) hL79 rfl rfl (fun L80 hL80 => ?_)
      refine f_goto rfl ?_
      have e9 : bI (rR0 w f1 f2 1 3) = 0 := c1
      rw [show lC (rl8 w f1 f2) s = lC (rl9 w f1 f2) (s + bI (rR0 w f1 f2 1 3)) from rfl, e9]
      exact hK9 hc17 _ _ hw17 hm17 (hL80.sel [0, 2, 1, 3] rfl)
    · have c1 : ¬ ((bI (rR0 w f1 f2 1 3) : Int) = (0 : Int)) := c1
      refine f_s [fi (1), fi (s)] rfl rfl ?_
      refine f_goto rfl ?_
      refine f_iadd rfl ?_
      refine f_istn [(1, fi (s + 1)), (3, fi (3)), (2, fi (1)), (0, .ref 53)] rfl (by decide) hL rfl (fun L81 hL81 => ?_)
      refine f_inc 1 [(3, fi (4)), (1, fi (s + 1)), (2, fi (1)), (0, .ref 53)] rfl (by decide) hL81 rfl rfl (fun L82 hL82 => ?_)
      refine f_goto rfl ?_
      have e9 : bI (rR0 w f1 f2 1 3) = 1 := by rw [bI1 c1]; rfl
      rw [show lC (rl8 w f1 f2) s = lC (rl9 w f1 f2) (s + bI (rR0 w f1 f2 1 3)) from rfl, e9]
      exact hK9 hc17 _ _ hw17 hm17 (hL82.sel [0, 2, 1, 3] rfl)
  have hK7 : ∀ (hc : ev_H) (s : Int) (L : ev_L), y_in yGw hc → gi hc = m → f_L L [(3, fi (2)), (2, fi (1)), (1, fi (s)), (0, .ref 53)] → x_W none (1, 0, 4, 0, 2, 3, 67, 0, 0, ev_t175) 11 L [] hc 0 0 (fun r' h' => r' = some (fi (lC (rl7 w f1 f2) s)) ∧ y_in yGw h' ∧ gi h' = m) := fun hc s L hw hm hL => by
    refine f_iln 0 rfl hL rfl ?_
    refine f_s [fi (5), fi (2)] rfl rfl ?_
    refine f_ic rfl (by decide) (by decide) (fun c_9 => absurd (show (5 : Int) ≤ (2 : Int) from c_9) (by decide)) (fun _ => ?_)
    refine f_iln 2 rfl hL rfl ?_
    refine f_aln 3 rfl hL rfl ?_
    refine f_iln 1 rfl hL rfl ?_
    refine f_iln 0 rfl hL rfl ?_
    refine m_k1 (t174 (a := 1) (b := 2) (by decide) (by decide) hwv h0 h1 h2) hw hm rfl rfl rfl (m_ar so53 hw rfl) rfl (fun hc18 hw18 hm18 => ?_)
    refine f_if rfl (bI_r _) (fun c1 => ?_) (fun c1 => ?_)
    · have c1 : (bI (rR0 w f1 f2 1 2) : Int) = (0 : Int) := c1
      refine f_s [fi (0), fi (s)] rfl rfl ?_
      refine f_iadd rfl ?_
      refine f_istn [(1, fi (s + 0)), (3, fi (2)), (2, fi (1)), (0, .ref 53)] rfl (by decide) hL rfl (fun L83 hL83 => ?_)
      refine f_inc 1 [(3, fi (3)), (1, fi (s + 0)), (2, fi (1)), (0, .ref 53)] rfl (by decide) hL83 rfl rfl (fun L84 hL84 => ?_)
      refine f_goto rfl ?_
      have e9 : bI (rR0 w f1 f2 1 2) = 0 := c1
      rw [show lC (rl7 w f1 f2) s = lC (rl8 w f1 f2) (s + bI (rR0 w f1 f2 1 2)) from rfl, e9]
      exact hK8 hc18 _ _ hw18 hm18 (hL84.sel [0, 2, 1, 3] rfl)
    · have c1 : ¬ ((bI (rR0 w f1 f2 1 2) : Int) = (0 : Int)) := c1
      refine f_s [fi (1), fi (s)] rfl rfl ?_
      refine f_goto rfl ?_
      refine f_iadd rfl ?_
      refine f_istn [(1, fi (s + 1)), (3, fi (2)), (2, fi (1)), (0, .ref 53)] rfl (by decide) hL rfl (fun L85 hL85 => ?_)
      refine f_inc 1 [(3, fi (3)), (1, fi (s + 1)), (2, fi (1)), (0, .ref 53)] rfl (by decide) hL85 rfl rfl (fun L86 hL86 => ?_)
      refine f_goto rfl ?_
      have e9 : bI (rR0 w f1 f2 1 2) = 1 := by rw [bI1 c1]; rfl
      rw [show lC (rl7 w f1 f2) s = lC (rl8 w f1 f2) (s + bI (rR0 w f1 f2 1 2)) from rfl, e9]
      exact hK8 hc18 _ _ hw18 hm18 (hL86.sel [0, 2, 1, 3] rfl)
  have hK6 : ∀ (hc : ev_H) (s : Int) (L : ev_L), y_in yGw hc → gi hc = m → f_L L [(3, fi (1)), (2, fi (1)), (1, fi (s)), (0, .ref 53)] → x_W none (1, 0, 4, 0, 2, 3, 67, 0, 0, ev_t175) 11 L [] hc 0 0 (fun r' h' => r' = some (fi (lC (rl6 w f1 f2) s)) ∧ y_in yGw h' ∧ gi h' = m) := fun hc s L hw hm hL => by
    refine f_iln 0 rfl hL rfl ?_
    refine f_s [fi (5), fi (1)] rfl rfl ?_
    refine f_ic rfl (by decide) (by decide) (fun c_9 => absurd (show (5 : Int) ≤ (1 : Int) from c_9) (by decide)) (fun _ => ?_)
    refine f_iln 2 rfl hL rfl ?_
    refine f_aln 3 rfl hL rfl ?_
    refine f_iln 1 rfl hL rfl ?_
    refine f_iln 0 rfl hL rfl ?_
    refine m_k1 (t174 (a := 1) (b := 1) (by decide) (by decide) hwv h0 h1 h2) hw hm rfl rfl rfl (m_ar so53 hw rfl) rfl (fun hc19 hw19 hm19 => ?_)
    refine f_if rfl (bI_r _) (fun c1 => ?_) (fun c1 => ?_)
    · have c1 : (bI (rR0 w f1 f2 1 1) : Int) = (0 : Int) := c1
      refine f_s [fi (0), fi (s)] rfl rfl ?_
      refine f_iadd rfl ?_
      refine f_istn [(1, fi (s + 0)), (3, fi (1)), (2, fi (1)), (0, .ref 53)] rfl (by decide) hL rfl (fun L87 hL87 => ?_)
      refine f_inc 1 [(3, fi (2)), (1, fi (s + 0)), (2, fi (1)), (0, .ref 53)] rfl (by decide) hL87 rfl rfl (fun L88 hL88 => ?_)
      refine f_goto rfl ?_
      have e9 : bI (rR0 w f1 f2 1 1) = 0 := c1
      rw [show lC (rl6 w f1 f2) s = lC (rl7 w f1 f2) (s + bI (rR0 w f1 f2 1 1)) from rfl, e9]
      exact hK7 hc19 _ _ hw19 hm19 (hL88.sel [0, 2, 1, 3] rfl)
    · have c1 : ¬ ((bI (rR0 w f1 f2 1 1) : Int) = (0 : Int)) := c1
      refine f_s [fi (1), fi (s)] rfl rfl ?_
      refine f_goto rfl ?_
      refine f_iadd rfl ?_
      refine f_istn [(1, fi (s + 1)), (3, fi (1)), (2, fi (1)), (0, .ref 53)] rfl (by decide) hL rfl (fun L89 hL89 => ?_)
      refine f_inc 1 [(3, fi (2)), (1, fi (s + 1)), (2, fi (1)), (0, .ref 53)] rfl (by decide) hL89 rfl rfl (fun L90 hL90 => ?_)
      refine f_goto rfl ?_
      have e9 : bI (rR0 w f1 f2 1 1) = 1 := by rw [bI1 c1]; rfl
      rw [show lC (rl6 w f1 f2) s = lC (rl7 w f1 f2) (s + bI (rR0 w f1 f2 1 1)) from rfl, e9]
      exact hK7 hc19 _ _ hw19 hm19 (hL90.sel [0, 2, 1, 3] rfl)
  have hK5 : ∀ (hc : ev_H) (s : Int) (L : ev_L), y_in yGw hc → gi hc = m → f_L L [(3, fi (0)), (2, fi (1)), (1, fi (s)), (0, .ref 53)] → x_W none (1, 0, 4, 0, 2, 3, 67, 0, 0, ev_t175) 11 L [] hc 0 0 (fun r' h' => r' = some (fi (lC (rl5 w f1 f2) s)) ∧ y_in yGw h' ∧ gi h' = m) := fun hc s L hw hm hL => by
    refine f_iln 0 rfl hL rfl ?_
    refine f_s [fi (5), fi (0)] rfl rfl ?_
    refine f_ic rfl (by decide) (by decide) (fun c_9 => absurd (show (5 : Int) ≤ (0 : Int) from c_9) (by decide)) (fun _ => ?_)
    refine f_iln 2 rfl hL rfl ?_
    refine f_aln 3 rfl hL rfl ?_
    refine f_iln 1 rfl hL rfl ?_
    refine f_iln 0 rfl hL rfl ?_
    refine m_k1 (t174 (a := 1) (b := 0) (by decide) (by decide) hwv h0 h1 h2) hw hm rfl rfl rfl (m_ar so53 hw rfl) rfl (fun hc20 hw20 hm20 => ?_)
    refine f_if rfl (bI_r _) (fun c1 => ?_) (fun c1 => ?_)
    · have c1 : (bI (rR0 w f1 f2 1 0) : Int) = (0 : Int) := c1
      refine f_s [fi (0), fi (s)] rfl rfl ?_
      refine f_iadd rfl ?_
      refine f_istn [(1, fi (s + 0)), (3, fi (0)), (2, fi (1)), (0, .ref 53)] rfl (by decide) hL rfl (fun L91 hL91 => ?_)
      refine f_inc 1 [(3, fi (1)), (1, fi (s + 0)), (2, fi (1)), (0, .ref 53)] rfl (by decide) hL91 rfl rfl (fun L92 hL92 => ?_)
      refine f_goto rfl ?_
      have e9 : bI (rR0 w f1 f2 1 0) = 0 := c1
      rw [show lC (rl5 w f1 f2) s = lC (rl6 w f1 f2) (s + bI (rR0 w f1 f2 1 0)) from rfl, e9]
      exact hK6 hc20 _ _ hw20 hm20 (hL92.sel [0, 2, 1, 3] rfl)
    · have c1 : ¬ ((bI (rR0 w f1 f2 1 0) : Int) = (0 : Int)) := c1
      refine f_s [fi (1), fi (s)] rfl rfl ?_
      refine f_goto rfl ?_
      refine f_iadd rfl ?_
      refine f_istn [(1, fi (s + 1)), (3, fi (0)), (2, fi (1)), (0, .ref 53)] rfl (by decide) hL rfl (fun L93 hL93 => ?_)
      refine f_inc 1 [(3, fi (1)), (1, fi (s + 1)), (2, fi (1)), (0, .ref 53)] rfl (by decide) hL93 rfl rfl (fun L94 hL94 => ?_)
      refine f_goto rfl ?_
      have e9 : bI (rR0 w f1 f2 1 0) = 1 := by rw [bI1 c1]; rfl
      rw [show lC (rl5 w f1 f2) s = lC (rl6 w f1 f2) (s + bI (rR0 w f1 f2 1 0)) from rfl, e9]
      exact hK6 hc20 _ _ hw20 hm20 (hL94.sel [0, 2, 1, 3] rfl)
  have hK4 : ∀ (hc : ev_H) (s : Int) (L : ev_L), y_in yGw hc → gi hc = m → f_L L [(3, fi (4)), (2, fi (0)), (1, fi (s)), (0, .ref 53)] → x_W none (1, 0, 4, 0, 2, 3, 67, 0, 0, ev_t175) 11 L [] hc 0 0 (fun r' h' => r' = some (fi (lC (rl4 w f1 f2) s)) ∧ y_in yGw h' ∧ gi h' = m) := fun hc s L hw hm hL => by
    refine f_iln 0 rfl hL rfl ?_
    refine f_s [fi (5), fi (4)] rfl rfl ?_
    refine f_ic rfl (by decide) (by decide) (fun c_9 => absurd (show (5 : Int) ≤ (4 : Int) from c_9) (by decide)) (fun _ => ?_)
    refine f_iln 2 rfl hL rfl ?_
    refine f_aln 3 rfl hL rfl ?_
    refine f_iln 1 rfl hL rfl ?_
    refine f_iln 0 rfl hL rfl ?_
    refine m_k1 (t174 (a := 0) (b := 4) (by decide) (by decide) hwv h0 h1 h2) hw hm rfl rfl rfl (m_ar so53 hw rfl) rfl (fun hc21 hw21 hm21 => ?_)
    refine f_if rfl (bI_r _) (fun c1 => ?_) (fun c1 => ?_)
    · have c1 : (bI (rR0 w f1 f2 0 4) : Int) = (0 : Int) := c1
      refine f_s [fi (0), fi (s)] rfl rfl ?_
      refine f_iadd rfl ?_
      refine f_istn [(1, fi (s + 0)), (3, fi (4)), (2, fi (0)), (0, .ref 53)] rfl (by decide) hL rfl (fun L95 hL95 => ?_)
      refine f_inc 1 [(3, fi (5)), (1, fi (s + 0)), (2, fi (0)), (0, .ref 53)] rfl (by decide) hL95 rfl rfl (fun L96 hL96 => ?_)
      refine f_goto rfl ?_
      refine f_iln 0 rfl hL96 rfl ?_
      refine f_s [fi (5), fi (5)] rfl rfl ?_
      refine f_ic rfl (by decide) (by decide) (fun _ => ?_) (fun c_9 => absurd (show (5 : Int) ≤ (5 : Int) from (by decide)) c_9)
      refine f_inc 2 [(2, fi (1)), (3, fi (5)), (1, fi (s + 0)), (0, .ref 53)] rfl (by decide) hL96 rfl rfl (fun L97 hL97 => ?_)
      refine f_goto rfl ?_
      refine f_iln 0 rfl hL97 rfl ?_
      refine f_s [fi (5), fi (1)] rfl rfl ?_
      refine f_ic rfl (by decide) (by decide) (fun c_9 => absurd (show (5 : Int) ≤ (1 : Int) from c_9) (by decide)) (fun _ => ?_)
      refine f_s [fi (0)] rfl rfl ?_
      refine f_istn [(3, fi (0)), (2, fi (1)), (1, fi (s + 0)), (0, .ref 53)] rfl (by decide) hL97 rfl (fun L98 hL98 => ?_)
      have e9 : bI (rR0 w f1 f2 0 4) = 0 := c1
      rw [show lC (rl4 w f1 f2) s = lC (rl5 w f1 f2) (s + bI (rR0 w f1 f2 0 4)) from rfl, e9]
      exact hK5 hc21 _ _ hw21 hm21 (hL98.sel [0, 1, 2, 3] rfl)
    · have c1 : ¬ ((bI (rR0 w f1 f2 0 4) : Int) = (0 : Int)) := c1
      refine f_s [fi (1), fi (s)] rfl rfl ?_
      refine f_goto rfl ?_
      refine f_iadd rfl ?_
      refine f_istn [(1, fi (s + 1)), (3, fi (4)), (2, fi (0)), (0, .ref 53)] rfl (by decide) hL rfl (fun L99 hL99 => ?_)
      refine f_inc 1 [(3, fi (5)), (1, fi (s + 1)), (2, fi (0)), (0, .ref 53)] rfl (by decide) hL99 rfl rfl (fun L100 hL100 => ?_)
      refine f_goto rfl ?_
      refine f_iln 0 rfl hL100 rfl ?_
      refine f_s [fi (5), fi (5)] rfl rfl ?_
      refine f_ic rfl (by decide) (by decide) (fun _ => ?_) (fun c_9 => absurd (show (5 : Int) ≤ (5 : Int) from (by decide)) c_9)
      refine f_inc 2 [(2, fi (1)), (3, fi (5)), (1, fi (s + 1)), (0, .ref 53)] rfl (by decide) hL100 rfl rfl (fun L101 hL101 => ?_)
      refine f_goto rfl ?_
      refine f_iln 0 rfl hL101 rfl ?_
      refine f_s [fi (5), fi (1)] rfl rfl ?_
      refine f_ic rfl (by decide) (by decide) (fun c_9 => absurd (show (5 : Int) ≤ (1 : Int) from c_9) (by decide)) (fun _ => ?_)
      refine f_s [fi (0)] rfl rfl ?_
      refine f_istn [(3, fi (0)), (2, fi (1)), (1, fi (s + 1)), (0, .ref 53)] rfl (by decide) hL101 rfl (fun L102 hL102 => ?_)
      have e9 : bI (rR0 w f1 f2 0 4) = 1 := by rw [bI1 c1]; rfl
      rw [show lC (rl4 w f1 f2) s = lC (rl5 w f1 f2) (s + bI (rR0 w f1 f2 0 4)) from rfl, e9]
      exact hK5 hc21 _ _ hw21 hm21 (hL102.sel [0, 1, 2, 3] rfl)
  have hK3 : ∀ (hc : ev_H) (s : Int) (L : ev_L), y_in yGw hc → gi hc = m → f_L L [(3, fi (3)), (2, fi (0)), (1, fi (s)), (0, .ref 53)] → x_W none (1, 0, 4, 0, 2, 3, 67, 0, 0, ev_t175) 11 L [] hc 0 0 (fun r' h' => r' = some (fi (lC (rl3 w f1 f2) s)) ∧ y_in yGw h' ∧ gi h' = m) := fun hc s L hw hm hL => by
    refine f_iln 0 rfl hL rfl ?_
    refine f_s [fi (5), fi (3)] rfl rfl ?_
    refine f_ic rfl (by decide) (by decide) (fun c_9 => absurd (show (5 : Int) ≤ (3 : Int) from c_9) (by decide)) (fun _ => ?_)
    refine f_iln 2 rfl hL rfl ?_
    refine f_aln 3 rfl hL rfl ?_
    refine f_iln 1 rfl hL rfl ?_
    refine f_iln 0 rfl hL rfl ?_
    refine m_k1 (t174 (a := 0) (b := 3) (by decide) (by decide) hwv h0 h1 h2) hw hm rfl rfl rfl (m_ar so53 hw rfl) rfl (fun hc22 hw22 hm22 => ?_)
    refine f_if rfl (bI_r _) (fun c1 => ?_) (fun c1 => ?_)
    · have c1 : (bI (rR0 w f1 f2 0 3) : Int) = (0 : Int) := c1
      refine f_s [fi (0), fi (s)] rfl rfl ?_
      refine f_iadd rfl ?_
      refine f_istn [(1, fi (s + 0)), (3, fi (3)), (2, fi (0)), (0, .ref 53)] rfl (by decide) hL rfl (fun L103 hL103 => ?_)
      refine f_inc 1 [(3, fi (4)), (1, fi (s + 0)), (2, fi (0)), (0, .ref 53)] rfl (by decide) hL103 rfl rfl (fun L104 hL104 => ?_)
      refine f_goto rfl ?_
      have e9 : bI (rR0 w f1 f2 0 3) = 0 := c1
      rw [show lC (rl3 w f1 f2) s = lC (rl4 w f1 f2) (s + bI (rR0 w f1 f2 0 3)) from rfl, e9]
      exact hK4 hc22 _ _ hw22 hm22 (hL104.sel [0, 2, 1, 3] rfl)
    · have c1 : ¬ ((bI (rR0 w f1 f2 0 3) : Int) = (0 : Int)) := c1
      refine f_s [fi (1), fi (s)] rfl rfl ?_
      refine f_goto rfl ?_
      refine f_iadd rfl ?_
      refine f_istn [(1, fi (s + 1)), (3, fi (3)), (2, fi (0)), (0, .ref 53)] rfl (by decide) hL rfl (fun L105 hL105 => ?_)
      refine f_inc 1 [(3, fi (4)), (1, fi (s + 1)), (2, fi (0)), (0, .ref 53)] rfl (by decide) hL105 rfl rfl (fun L106 hL106 => ?_)
      refine f_goto rfl ?_
      have e9 : bI (rR0 w f1 f2 0 3) = 1 := by rw [bI1 c1]; rfl
      rw [show lC (rl3 w f1 f2) s = lC (rl4 w f1 f2) (s + bI (rR0 w f1 f2 0 3)) from rfl, e9]
      exact hK4 hc22 _ _ hw22 hm22 (hL106.sel [0, 2, 1, 3] rfl)
  have hK2 : ∀ (hc : ev_H) (s : Int) (L : ev_L), y_in yGw hc → gi hc = m → f_L L [(3, fi (2)), (2, fi (0)), (1, fi (s)), (0, .ref 53)] → x_W none (1, 0, 4, 0, 2, 3, 67, 0, 0, ev_t175) 11 L [] hc 0 0 (fun r' h' => r' = some (fi (lC (rl2 w f1 f2) s)) ∧ y_in yGw h' ∧ gi h' = m) := fun hc s L hw hm hL => by
    refine f_iln 0 rfl hL rfl ?_
    refine f_s [fi (5), fi (2)] rfl rfl ?_
    refine f_ic rfl (by decide) (by decide) (fun c_9 => absurd (show (5 : Int) ≤ (2 : Int) from c_9) (by decide)) (fun _ => ?_)
    refine f_iln 2 rfl hL rfl ?_
    refine f_aln 3 rfl hL rfl ?_
    refine f_iln 1 rfl hL rfl ?_
    refine f_iln 0 rfl hL rfl ?_
    refine m_k1 (t174 (a := 0) (b := 2) (by decide) (by decide) hwv h0 h1 h2) hw hm rfl rfl rfl (m_ar so53 hw rfl) rfl (fun hc23 hw23 hm23 => ?_)
    refine f_if rfl (bI_r _) (fun c1 => ?_) (fun c1 => ?_)
    · have c1 : (bI (rR0 w f1 f2 0 2) : Int) = (0 : Int) := c1
      refine f_s [fi (0), fi (s)] rfl rfl ?_
      refine f_iadd rfl ?_
      refine f_istn [(1, fi (s + 0)), (3, fi (2)), (2, fi (0)), (0, .ref 53)] rfl (by decide) hL rfl (fun L107 hL107 => ?_)
      refine f_inc 1 [(3, fi (3)), (1, fi (s + 0)), (2, fi (0)), (0, .ref 53)] rfl (by decide) hL107 rfl rfl (fun L108 hL108 => ?_)
      refine f_goto rfl ?_
      have e9 : bI (rR0 w f1 f2 0 2) = 0 := c1
      rw [show lC (rl2 w f1 f2) s = lC (rl3 w f1 f2) (s + bI (rR0 w f1 f2 0 2)) from rfl, e9]
      exact hK3 hc23 _ _ hw23 hm23 (hL108.sel [0, 2, 1, 3] rfl)
    · have c1 : ¬ ((bI (rR0 w f1 f2 0 2) : Int) = (0 : Int)) := c1
      refine f_s [fi (1), fi (s)] rfl rfl ?_
      refine f_goto rfl ?_
      refine f_iadd rfl ?_
      refine f_istn [(1, fi (s + 1)), (3, fi (2)), (2, fi (0)), (0, .ref 53)] rfl (by decide) hL rfl (fun L109 hL109 => ?_)
      refine f_inc 1 [(3, fi (3)), (1, fi (s + 1)), (2, fi (0)), (0, .ref 53)] rfl (by decide) hL109 rfl rfl (fun L110 hL110 => ?_)
      refine f_goto rfl ?_
      have e9 : bI (rR0 w f1 f2 0 2) = 1 := by rw [bI1 c1]; rfl
      rw [show lC (rl2 w f1 f2) s = lC (rl3 w f1 f2) (s + bI (rR0 w f1 f2 0 2)) from rfl, e9]
      exact hK3 hc23 _ _ hw23 hm23 (hL110.sel [0, 2, 1, 3] rfl)
  have hK1 : ∀ (hc : ev_H) (s : Int) (L : ev_L), y_in yGw hc → gi hc = m → f_L L [(3, fi (1)), (2, fi (0)), (1, fi (s)), (0, .ref 53)] → x_W none (1, 0, 4, 0, 2, 3, 67, 0, 0, ev_t175) 11 L [] hc 0 0 (fun r' h' => r' = some (fi (lC (rl1 w f1 f2) s)) ∧ y_in yGw h' ∧ gi h' = m) := fun hc s L hw hm hL => by
    refine f_iln 0 rfl hL rfl ?_
    refine f_s [fi (5), fi (1)] rfl rfl ?_
    refine f_ic rfl (by decide) (by decide) (fun c_9 => absurd (show (5 : Int) ≤ (1 : Int) from c_9) (by decide)) (fun _ => ?_)
    refine f_iln 2 rfl hL rfl ?_
    refine f_aln 3 rfl hL rfl ?_
    refine f_iln 1 rfl hL rfl ?_
    refine f_iln 0 rfl hL rfl ?_
    refine m_k1 (t174 (a := 0) (b := 1) (by decide) (by decide) hwv h0 h1 h2) hw hm rfl rfl rfl (m_ar so53 hw rfl) rfl (fun hc24 hw24 hm24 => ?_)
    refine f_if rfl (bI_r _) (fun c1 => ?_) (fun c1 => ?_)
    · have c1 : (bI (rR0 w f1 f2 0 1) : Int) = (0 : Int) := c1
      refine f_s [fi (0), fi (s)] rfl rfl ?_
      refine f_iadd rfl ?_
      refine f_istn [(1, fi (s + 0)), (3, fi (1)), (2, fi (0)), (0, .ref 53)] rfl (by decide) hL rfl (fun L111 hL111 => ?_)
      refine f_inc 1 [(3, fi (2)), (1, fi (s + 0)), (2, fi (0)), (0, .ref 53)] rfl (by decide) hL111 rfl rfl (fun L112 hL112 => ?_)
      refine f_goto rfl ?_
      have e9 : bI (rR0 w f1 f2 0 1) = 0 := c1
      rw [show lC (rl1 w f1 f2) s = lC (rl2 w f1 f2) (s + bI (rR0 w f1 f2 0 1)) from rfl, e9]
      exact hK2 hc24 _ _ hw24 hm24 (hL112.sel [0, 2, 1, 3] rfl)
    · have c1 : ¬ ((bI (rR0 w f1 f2 0 1) : Int) = (0 : Int)) := c1
      refine f_s [fi (1), fi (s)] rfl rfl ?_
      refine f_goto rfl ?_
      refine f_iadd rfl ?_
      refine f_istn [(1, fi (s + 1)), (3, fi (1)), (2, fi (0)), (0, .ref 53)] rfl (by decide) hL rfl (fun L113 hL113 => ?_)
      refine f_inc 1 [(3, fi (2)), (1, fi (s + 1)), (2, fi (0)), (0, .ref 53)] rfl (by decide) hL113 rfl rfl (fun L114 hL114 => ?_)
      refine f_goto rfl ?_
      have e9 : bI (rR0 w f1 f2 0 1) = 1 := by rw [bI1 c1]; rfl
      rw [show lC (rl1 w f1 f2) s = lC (rl2 w f1 f2) (s + bI (rR0 w f1 f2 0 1)) from rfl, e9]
      exact hK2 hc24 _ _ hw24 hm24 (hL114.sel [0, 2, 1, 3] rfl)
  have hK0 : ∀ (hc : ev_H) (s : Int) (L : ev_L), y_in yGw hc → gi hc = m → f_L L [(3, fi (0)), (2, fi (0)), (1, fi (s)), (0, .ref 53)] → x_W none (1, 0, 4, 0, 2, 3, 67, 0, 0, ev_t175) 11 L [] hc 0 0 (fun r' h' => r' = some (fi (lC (rl0 w f1 f2) s)) ∧ y_in yGw h' ∧ gi h' = m) := fun hc s L hw hm hL => by
    refine f_iln 0 rfl hL rfl ?_
    refine f_s [fi (5), fi (0)] rfl rfl ?_
    refine f_ic rfl (by decide) (by decide) (fun c_9 => absurd (show (5 : Int) ≤ (0 : Int) from c_9) (by decide)) (fun _ => ?_)
    refine f_iln 2 rfl hL rfl ?_
    refine f_aln 3 rfl hL rfl ?_
    refine f_iln 1 rfl hL rfl ?_
    refine f_iln 0 rfl hL rfl ?_
    refine m_k1 (t174 (a := 0) (b := 0) (by decide) (by decide) hwv h0 h1 h2) hw hm rfl rfl rfl (m_ar so53 hw rfl) rfl (fun hc25 hw25 hm25 => ?_)
    refine f_if rfl (bI_r _) (fun c1 => ?_) (fun c1 => ?_)
    · have c1 : (bI (rR0 w f1 f2 0 0) : Int) = (0 : Int) := c1
      refine f_s [fi (0), fi (s)] rfl rfl ?_
      refine f_iadd rfl ?_
      refine f_istn [(1, fi (s + 0)), (3, fi (0)), (2, fi (0)), (0, .ref 53)] rfl (by decide) hL rfl (fun L115 hL115 => ?_)
      refine f_inc 1 [(3, fi (1)), (1, fi (s + 0)), (2, fi (0)), (0, .ref 53)] rfl (by decide) hL115 rfl rfl (fun L116 hL116 => ?_)
      refine f_goto rfl ?_
      have e9 : bI (rR0 w f1 f2 0 0) = 0 := c1
      rw [show lC (rl0 w f1 f2) s = lC (rl1 w f1 f2) (s + bI (rR0 w f1 f2 0 0)) from rfl, e9]
      exact hK1 hc25 _ _ hw25 hm25 (hL116.sel [0, 2, 1, 3] rfl)
    · have c1 : ¬ ((bI (rR0 w f1 f2 0 0) : Int) = (0 : Int)) := c1
      refine f_s [fi (1), fi (s)] rfl rfl ?_
      refine f_goto rfl ?_
      refine f_iadd rfl ?_
      refine f_istn [(1, fi (s + 1)), (3, fi (0)), (2, fi (0)), (0, .ref 53)] rfl (by decide) hL rfl (fun L117 hL117 => ?_)
      refine f_inc 1 [(3, fi (1)), (1, fi (s + 1)), (2, fi (0)), (0, .ref 53)] rfl (by decide) hL117 rfl rfl (fun L118 hL118 => ?_)
      refine f_goto rfl ?_
      have e9 : bI (rR0 w f1 f2 0 0) = 1 := by rw [bI1 c1]; rfl
      rw [show lC (rl0 w f1 f2) s = lC (rl1 w f1 f2) (s + bI (rR0 w f1 f2 0 0)) from rfl, e9]
      exact hK1 hc25 _ _ hw25 hm25 (hL118.sel [0, 2, 1, 3] rfl)
  refine f_s [fi (0)] rfl rfl ?_
  refine f_istn [(1, fi (0)), (0, .ref 53)] rfl (by decide) hL rfl (fun L119 hL119 => ?_)
  refine f_s [fi (0)] rfl rfl ?_
  refine f_istn [(2, fi (0)), (1, fi (0)), (0, .ref 53)] rfl (by decide) hL119 rfl (fun L120 hL120 => ?_)
  refine f_iln 0 rfl hL120 rfl ?_
  refine f_s [fi (5), fi (0)] rfl rfl ?_
  refine f_ic rfl (by decide) (by decide) (fun c_9 => absurd (show (5 : Int) ≤ (0 : Int) from c_9) (by decide)) (fun _ => ?_)
  refine f_s [fi (0)] rfl rfl ?_
  refine f_istn [(3, fi (0)), (2, fi (0)), (1, fi (0)), (0, .ref 53)] rfl (by decide) hL120 rfl (fun L121 hL121 => ?_)
  exact hK0 hc 0 _ hw hm (hL121.sel [0, 1, 2, 3] rfl))
set_option maxHeartbeats 1000000 in
theorem t176 {m : Nat → Nat → Int} {w : Int} {f1 f2 : Bool} (hwv : 0 ≤ w ∧ w ≤ 9) (h0 : m 53 0 = w) (h1 : m 53 1 = bI f1) (h2 : m 53 2 = bI f2) : h_M 176 [.ref 53] m (some (fi (lF (rl0 w f1 f2)))) m := h_M_of (R := ev_r176) rfl (fun hc hw hm => by
  have hL : f_L (lv_args 0 [.ref 53]) [(0, .ref 53)] := f_L_of rfl
  generalize lv_args 0 [.ref 53] = L at hL
  show x_W none (1, 0, 3, 0, 2, 3, 67, 0, 0, ev_t176) 0 L [] hc 0 0 _
  have hR := gi_R hm
  have hK24 : ∀ (hc : ev_H) (L : ev_L), y_in yGw hc → gi hc = m → f_L L [(2, fi (4)), (1, fi (4)), (0, .ref 53)] → x_W none (1, 0, 3, 0, 2, 3, 67, 0, 0, ev_t176) 9 L [] hc 0 0 (fun r' h' => r' = some (fi (lF (rl24 w f1 f2))) ∧ y_in yGw h' ∧ gi h' = m) := fun hc L hw hm hL => by
    refine f_iln 0 rfl hL rfl ?_
    refine f_s [fi (5), fi (4)] rfl rfl ?_
    refine f_ic rfl (by decide) (by decide) (fun c_9 => absurd (show (5 : Int) ≤ (4 : Int) from c_9) (by decide)) (fun _ => ?_)
    refine f_aln 2 rfl hL rfl ?_
    refine f_iln 1 rfl hL rfl ?_
    refine f_iln 0 rfl hL rfl ?_
    refine m_k1 (t174 (a := 4) (b := 4) (by decide) (by decide) hwv h0 h1 h2) hw hm rfl rfl rfl (m_ar so53 hw rfl) rfl (fun hc1 hw1 hm1 => ?_)
    refine f_if rfl (bI_r _) (fun c1 => ?_) (fun c1 => ?_)
    · have c1 : (bI (rR0 w f1 f2 4 4) : Int) = (0 : Int) := c1
      refine f_inc 0 [(2, fi (5)), (1, fi (4)), (0, .ref 53)] rfl (by decide) hL rfl rfl (fun L1 hL1 => ?_)
      refine f_goto rfl ?_
      refine f_iln 0 rfl hL1 rfl ?_
      refine f_s [fi (5), fi (5)] rfl rfl ?_
      refine f_ic rfl (by decide) (by decide) (fun _ => ?_) (fun c_9 => absurd (show (5 : Int) ≤ (5 : Int) from (by decide)) c_9)
      refine f_inc 1 [(1, fi (5)), (2, fi (5)), (0, .ref 53)] rfl (by decide) hL1 rfl rfl (fun L2 hL2 => ?_)
      refine f_goto rfl ?_
      refine f_iln 0 rfl hL2 rfl ?_
      refine f_s [fi (5), fi (5)] rfl rfl ?_
      refine f_ic rfl (by decide) (by decide) (fun _ => ?_) (fun c_9 => absurd (show (5 : Int) ≤ (5 : Int) from (by decide)) c_9)
      refine f_bipush (n := -9) rfl (by decide) ?_
      exact f_ret1 rfl ⟨by rw [show lF (rl24 w f1 f2) = (if rR0 w f1 f2 4 4 = true then 44 else -9) from rfl, bI0 c1, if_neg (by decide)], hw1, hm1⟩
    · have c1 : ¬ ((bI (rR0 w f1 f2 4 4) : Int) = (0 : Int)) := c1
      refine f_bipush (n := 10) rfl (by decide) ?_
      refine f_iln 1 rfl hL rfl ?_
      refine f_imul rfl ?_
      refine b_eq (x := 40) (by decide) ?_
      refine f_iln 0 rfl hL rfl ?_
      refine f_iadd rfl ?_
      refine b_eq (x := 44) (by decide) ?_
      exact f_ret1 rfl ⟨by rw [show lF (rl24 w f1 f2) = (if rR0 w f1 f2 4 4 = true then 44 else lF (rl25 w f1 f2)) from rfl, if_pos (bI1 c1)], hw1, hm1⟩
  have hK23 : ∀ (hc : ev_H) (L : ev_L), y_in yGw hc → gi hc = m → f_L L [(2, fi (3)), (1, fi (4)), (0, .ref 53)] → x_W none (1, 0, 3, 0, 2, 3, 67, 0, 0, ev_t176) 9 L [] hc 0 0 (fun r' h' => r' = some (fi (lF (rl23 w f1 f2))) ∧ y_in yGw h' ∧ gi h' = m) := fun hc L hw hm hL => by
    refine f_iln 0 rfl hL rfl ?_
    refine f_s [fi (5), fi (3)] rfl rfl ?_
    refine f_ic rfl (by decide) (by decide) (fun c_9 => absurd (show (5 : Int) ≤ (3 : Int) from c_9) (by decide)) (fun _ => ?_)
    refine f_aln 2 rfl hL rfl ?_
    refine f_iln 1 rfl hL rfl ?_
    refine f_iln 0 rfl hL rfl ?_
    refine m_k1 (t174 (a := 4) (b := 3) (by decide) (by decide) hwv h0 h1 h2) hw hm rfl rfl rfl (m_ar so53 hw rfl) rfl (fun hc2 hw2 hm2 => ?_)
    refine f_if rfl (bI_r _) (fun c1 => ?_) (fun c1 => ?_)
    · have c1 : (bI (rR0 w f1 f2 4 3) : Int) = (0 : Int) := c1
      refine f_inc 0 [(2, fi (4)), (1, fi (4)), (0, .ref 53)] rfl (by decide) hL rfl rfl (fun L3 hL3 => ?_)
      refine f_goto rfl ?_
      rw [show lF (rl23 w f1 f2) = (if rR0 w f1 f2 4 3 = true then 43 else lF (rl24 w f1 f2)) from rfl, bI0 c1, if_neg (by decide)]
      exact hK24 hc2 _ hw2 hm2 (hL3.sel [0, 1, 2] rfl)
    · have c1 : ¬ ((bI (rR0 w f1 f2 4 3) : Int) = (0 : Int)) := c1
      refine f_bipush (n := 10) rfl (by decide) ?_
      refine f_iln 1 rfl hL rfl ?_
      refine f_imul rfl ?_
      refine b_eq (x := 40) (by decide) ?_
      refine f_iln 0 rfl hL rfl ?_
      refine f_iadd rfl ?_
      refine b_eq (x := 43) (by decide) ?_
      exact f_ret1 rfl ⟨by rw [show lF (rl23 w f1 f2) = (if rR0 w f1 f2 4 3 = true then 43 else lF (rl24 w f1 f2)) from rfl, if_pos (bI1 c1)], hw2, hm2⟩
  have hK22 : ∀ (hc : ev_H) (L : ev_L), y_in yGw hc → gi hc = m → f_L L [(2, fi (2)), (1, fi (4)), (0, .ref 53)] → x_W none (1, 0, 3, 0, 2, 3, 67, 0, 0, ev_t176) 9 L [] hc 0 0 (fun r' h' => r' = some (fi (lF (rl22 w f1 f2))) ∧ y_in yGw h' ∧ gi h' = m) := fun hc L hw hm hL => by
    refine f_iln 0 rfl hL rfl ?_
    refine f_s [fi (5), fi (2)] rfl rfl ?_
    refine f_ic rfl (by decide) (by decide) (fun c_9 => absurd (show (5 : Int) ≤ (2 : Int) from c_9) (by decide)) (fun _ => ?_)
    refine f_aln 2 rfl hL rfl ?_
    refine f_iln 1 rfl hL rfl ?_
    refine f_iln 0 rfl hL rfl ?_
    refine m_k1 (t174 (a := 4) (b := 2) (by decide) (by decide) hwv h0 h1 h2) hw hm rfl rfl rfl (m_ar so53 hw rfl) rfl (fun hc3 hw3 hm3 => ?_)
    refine f_if rfl (bI_r _) (fun c1 => ?_) (fun c1 => ?_)
    · have c1 : (bI (rR0 w f1 f2 4 2) : Int) = (0 : Int) := c1
      refine f_inc 0 [(2, fi (3)), (1, fi (4)), (0, .ref 53)] rfl (by decide) hL rfl rfl (fun L4 hL4 => ?_)
      refine f_goto rfl ?_
      rw [show lF (rl22 w f1 f2) = (if rR0 w f1 f2 4 2 = true then 42 else lF (rl23 w f1 f2)) from rfl, bI0 c1, if_neg (by decide)]
      exact hK23 hc3 _ hw3 hm3 (hL4.sel [0, 1, 2] rfl)
    · have c1 : ¬ ((bI (rR0 w f1 f2 4 2) : Int) = (0 : Int)) := c1
      refine f_bipush (n := 10) rfl (by decide) ?_
      refine f_iln 1 rfl hL rfl ?_
      refine f_imul rfl ?_
      refine b_eq (x := 40) (by decide) ?_
      refine f_iln 0 rfl hL rfl ?_
      refine f_iadd rfl ?_
      refine b_eq (x := 42) (by decide) ?_
      exact f_ret1 rfl ⟨by rw [show lF (rl22 w f1 f2) = (if rR0 w f1 f2 4 2 = true then 42 else lF (rl23 w f1 f2)) from rfl, if_pos (bI1 c1)], hw3, hm3⟩
  have hK21 : ∀ (hc : ev_H) (L : ev_L), y_in yGw hc → gi hc = m → f_L L [(2, fi (1)), (1, fi (4)), (0, .ref 53)] → x_W none (1, 0, 3, 0, 2, 3, 67, 0, 0, ev_t176) 9 L [] hc 0 0 (fun r' h' => r' = some (fi (lF (rl21 w f1 f2))) ∧ y_in yGw h' ∧ gi h' = m) := fun hc L hw hm hL => by
    refine f_iln 0 rfl hL rfl ?_
    refine f_s [fi (5), fi (1)] rfl rfl ?_
    refine f_ic rfl (by decide) (by decide) (fun c_9 => absurd (show (5 : Int) ≤ (1 : Int) from c_9) (by decide)) (fun _ => ?_)
    refine f_aln 2 rfl hL rfl ?_
    refine f_iln 1 rfl hL rfl ?_
    refine f_iln 0 rfl hL rfl ?_
    refine m_k1 (t174 (a := 4) (b := 1) (by decide) (by decide) hwv h0 h1 h2) hw hm rfl rfl rfl (m_ar so53 hw rfl) rfl (fun hc4 hw4 hm4 => ?_)
    refine f_if rfl (bI_r _) (fun c1 => ?_) (fun c1 => ?_)
    · have c1 : (bI (rR0 w f1 f2 4 1) : Int) = (0 : Int) := c1
      refine f_inc 0 [(2, fi (2)), (1, fi (4)), (0, .ref 53)] rfl (by decide) hL rfl rfl (fun L5 hL5 => ?_)
      refine f_goto rfl ?_
      rw [show lF (rl21 w f1 f2) = (if rR0 w f1 f2 4 1 = true then 41 else lF (rl22 w f1 f2)) from rfl, bI0 c1, if_neg (by decide)]
      exact hK22 hc4 _ hw4 hm4 (hL5.sel [0, 1, 2] rfl)
    · have c1 : ¬ ((bI (rR0 w f1 f2 4 1) : Int) = (0 : Int)) := c1
      refine f_bipush (n := 10) rfl (by decide) ?_
      refine f_iln 1 rfl hL rfl ?_
      refine f_imul rfl ?_
      refine b_eq (x := 40) (by decide) ?_
      refine f_iln 0 rfl hL rfl ?_
      refine f_iadd rfl ?_
      refine b_eq (x := 41) (by decide) ?_
      exact f_ret1 rfl ⟨by rw [show lF (rl21 w f1 f2) = (if rR0 w f1 f2 4 1 = true then 41 else lF (rl22 w f1 f2)) from rfl, if_pos (bI1 c1)], hw4, hm4⟩
  have hK20 : ∀ (hc : ev_H) (L : ev_L), y_in yGw hc → gi hc = m → f_L L [(2, fi (0)), (1, fi (4)), (0, .ref 53)] → x_W none (1, 0, 3, 0, 2, 3, 67, 0, 0, ev_t176) 9 L [] hc 0 0 (fun r' h' => r' = some (fi (lF (rl20 w f1 f2))) ∧ y_in yGw h' ∧ gi h' = m) := fun hc L hw hm hL => by
    refine f_iln 0 rfl hL rfl ?_
    refine f_s [fi (5), fi (0)] rfl rfl ?_
    refine f_ic rfl (by decide) (by decide) (fun c_9 => absurd (show (5 : Int) ≤ (0 : Int) from c_9) (by decide)) (fun _ => ?_)
    refine f_aln 2 rfl hL rfl ?_
    refine f_iln 1 rfl hL rfl ?_
    refine f_iln 0 rfl hL rfl ?_
    refine m_k1 (t174 (a := 4) (b := 0) (by decide) (by decide) hwv h0 h1 h2) hw hm rfl rfl rfl (m_ar so53 hw rfl) rfl (fun hc5 hw5 hm5 => ?_)
    refine f_if rfl (bI_r _) (fun c1 => ?_) (fun c1 => ?_)
    · have c1 : (bI (rR0 w f1 f2 4 0) : Int) = (0 : Int) := c1
      refine f_inc 0 [(2, fi (1)), (1, fi (4)), (0, .ref 53)] rfl (by decide) hL rfl rfl (fun L6 hL6 => ?_)
      refine f_goto rfl ?_
      rw [show lF (rl20 w f1 f2) = (if rR0 w f1 f2 4 0 = true then 40 else lF (rl21 w f1 f2)) from rfl, bI0 c1, if_neg (by decide)]
      exact hK21 hc5 _ hw5 hm5 (hL6.sel [0, 1, 2] rfl)
    · have c1 : ¬ ((bI (rR0 w f1 f2 4 0) : Int) = (0 : Int)) := c1
      refine f_bipush (n := 10) rfl (by decide) ?_
      refine f_iln 1 rfl hL rfl ?_
      refine f_imul rfl ?_
      refine b_eq (x := 40) (by decide) ?_
      refine f_iln 0 rfl hL rfl ?_
      refine f_iadd rfl ?_
      refine b_eq (x := 40) (by decide) ?_
      exact f_ret1 rfl ⟨by rw [show lF (rl20 w f1 f2) = (if rR0 w f1 f2 4 0 = true then 40 else lF (rl21 w f1 f2)) from rfl, if_pos (bI1 c1)], hw5, hm5⟩
  have hK19 : ∀ (hc : ev_H) (L : ev_L), y_in yGw hc → gi hc = m → f_L L [(2, fi (4)), (1, fi (3)), (0, .ref 53)] → x_W none (1, 0, 3, 0, 2, 3, 67, 0, 0, ev_t176) 9 L [] hc 0 0 (fun r' h' => r' = some (fi (lF (rl19 w f1 f2))) ∧ y_in yGw h' ∧ gi h' = m) := fun hc L hw hm hL => by
    refine f_iln 0 rfl hL rfl ?_
    refine f_s [fi (5), fi (4)] rfl rfl ?_
    refine f_ic rfl (by decide) (by decide) (fun c_9 => absurd (show (5 : Int) ≤ (4 : Int) from c_9) (by decide)) (fun _ => ?_)
    refine f_aln 2 rfl hL rfl ?_
    refine f_iln 1 rfl hL rfl ?_
    refine f_iln 0 rfl hL rfl ?_
    refine m_k1 (t174 (a := 3) (b := 4) (by decide) (by decide) hwv h0 h1 h2) hw hm rfl rfl rfl (m_ar so53 hw rfl) rfl (fun hc6 hw6 hm6 => ?_)
    refine f_if rfl (bI_r _) (fun c1 => ?_) (fun c1 => ?_)
    · have c1 : (bI (rR0 w f1 f2 3 4) : Int) = (0 : Int) := c1
      refine f_inc 0 [(2, fi (5)), (1, fi (3)), (0, .ref 53)] rfl (by decide) hL rfl rfl (fun L7 hL7 => ?_)
      refine f_goto rfl ?_
      refine f_iln 0 rfl hL7 rfl ?_
      refine f_s [fi (5), fi (5)] rfl rfl ?_
      refine f_ic rfl (by decide) (by decide) (fun _ => ?_) (fun c_9 => absurd (show (5 : Int) ≤ (5 : Int) from (by decide)) c_9)
      refine f_inc 1 [(1, fi (4)), (2, fi (5)), (0, .ref 53)] rfl (by decide) hL7 rfl rfl (fun L8 hL8 => ?_)
      refine f_goto rfl ?_
      refine f_iln 0 rfl hL8 rfl ?_
      refine f_s [fi (5), fi (4)] rfl rfl ?_
      refine f_ic rfl (by decide) (by decide) (fun c_9 => absurd (show (5 : Int) ≤ (4 : Int) from c_9) (by decide)) (fun _ => ?_)
      refine f_s [fi (0)] rfl rfl ?_
      refine f_istn [(2, fi (0)), (1, fi (4)), (0, .ref 53)] rfl (by decide) hL8 rfl (fun L9 hL9 => ?_)
      rw [show lF (rl19 w f1 f2) = (if rR0 w f1 f2 3 4 = true then 34 else lF (rl20 w f1 f2)) from rfl, bI0 c1, if_neg (by decide)]
      exact hK20 hc6 _ hw6 hm6 (hL9.sel [0, 1, 2] rfl)
    · have c1 : ¬ ((bI (rR0 w f1 f2 3 4) : Int) = (0 : Int)) := c1
      refine f_bipush (n := 10) rfl (by decide) ?_
      refine f_iln 1 rfl hL rfl ?_
      refine f_imul rfl ?_
      refine b_eq (x := 30) (by decide) ?_
      refine f_iln 0 rfl hL rfl ?_
      refine f_iadd rfl ?_
      refine b_eq (x := 34) (by decide) ?_
      exact f_ret1 rfl ⟨by rw [show lF (rl19 w f1 f2) = (if rR0 w f1 f2 3 4 = true then 34 else lF (rl20 w f1 f2)) from rfl, if_pos (bI1 c1)], hw6, hm6⟩
  have hK18 : ∀ (hc : ev_H) (L : ev_L), y_in yGw hc → gi hc = m → f_L L [(2, fi (3)), (1, fi (3)), (0, .ref 53)] → x_W none (1, 0, 3, 0, 2, 3, 67, 0, 0, ev_t176) 9 L [] hc 0 0 (fun r' h' => r' = some (fi (lF (rl18 w f1 f2))) ∧ y_in yGw h' ∧ gi h' = m) := fun hc L hw hm hL => by
    refine f_iln 0 rfl hL rfl ?_
    refine f_s [fi (5), fi (3)] rfl rfl ?_
    refine f_ic rfl (by decide) (by decide) (fun c_9 => absurd (show (5 : Int) ≤ (3 : Int) from c_9) (by decide)) (fun _ => ?_)
    refine f_aln 2 rfl hL rfl ?_
    refine f_iln 1 rfl hL rfl ?_
    refine f_iln 0 rfl hL rfl ?_
    refine m_k1 (t174 (a := 3) (b := 3) (by decide) (by decide) hwv h0 h1 h2) hw hm rfl rfl rfl (m_ar so53 hw rfl) rfl (fun hc7 hw7 hm7 => ?_)
    refine f_if rfl (bI_r _) (fun c1 => ?_) (fun c1 => ?_)
    · have c1 : (bI (rR0 w f1 f2 3 3) : Int) = (0 : Int) := c1
      refine f_inc 0 [(2, fi (4)), (1, fi (3)), (0, .ref 53)] rfl (by decide) hL rfl rfl (fun L10 hL10 => ?_)
      refine f_goto rfl ?_
      rw [show lF (rl18 w f1 f2) = (if rR0 w f1 f2 3 3 = true then 33 else lF (rl19 w f1 f2)) from rfl, bI0 c1, if_neg (by decide)]
      exact hK19 hc7 _ hw7 hm7 (hL10.sel [0, 1, 2] rfl)
    · have c1 : ¬ ((bI (rR0 w f1 f2 3 3) : Int) = (0 : Int)) := c1
      refine f_bipush (n := 10) rfl (by decide) ?_
      refine f_iln 1 rfl hL rfl ?_
      refine f_imul rfl ?_
      refine b_eq (x := 30) (by decide) ?_
      refine f_iln 0 rfl hL rfl ?_
      refine f_iadd rfl ?_
      refine b_eq (x := 33) (by decide) ?_
      exact f_ret1 rfl ⟨by rw [show lF (rl18 w f1 f2) = (if rR0 w f1 f2 3 3 = true then 33 else lF (rl19 w f1 f2)) from rfl, if_pos (bI1 c1)], hw7, hm7⟩
  have hK17 : ∀ (hc : ev_H) (L : ev_L), y_in yGw hc → gi hc = m → f_L L [(2, fi (2)), (1, fi (3)), (0, .ref 53)] → x_W none (1, 0, 3, 0, 2, 3, 67, 0, 0, ev_t176) 9 L [] hc 0 0 (fun r' h' => r' = some (fi (lF (rl17 w f1 f2))) ∧ y_in yGw h' ∧ gi h' = m) := fun hc L hw hm hL => by
    refine f_iln 0 rfl hL rfl ?_
    refine f_s [fi (5), fi (2)] rfl rfl ?_
    refine f_ic rfl (by decide) (by decide) (fun c_9 => absurd (show (5 : Int) ≤ (2 : Int) from c_9) (by decide)) (fun _ => ?_)
    refine f_aln 2 rfl hL rfl ?_
    refine f_iln 1 rfl hL rfl ?_
    refine f_iln 0 rfl hL rfl ?_
    refine m_k1 (t174 (a := 3) (b := 2) (by decide) (by decide) hwv h0 h1 h2) hw hm rfl rfl rfl (m_ar so53 hw rfl) rfl (fun hc8 hw8 hm8 => ?_)
    refine f_if rfl (bI_r _) (fun c1 => ?_) (fun c1 => ?_)
    · have c1 : (bI (rR0 w f1 f2 3 2) : Int) = (0 : Int) := c1
      refine f_inc 0 [(2, fi (3)), (1, fi (3)), (0, .ref 53)] rfl (by decide) hL rfl rfl (fun L11 hL11 => ?_)
      refine f_goto rfl ?_
      rw [show lF (rl17 w f1 f2) = (if rR0 w f1 f2 3 2 = true then 32 else lF (rl18 w f1 f2)) from rfl, bI0 c1, if_neg (by decide)]
      exact hK18 hc8 _ hw8 hm8 (hL11.sel [0, 1, 2] rfl)
    · have c1 : ¬ ((bI (rR0 w f1 f2 3 2) : Int) = (0 : Int)) := c1
      refine f_bipush (n := 10) rfl (by decide) ?_
      refine f_iln 1 rfl hL rfl ?_
      refine f_imul rfl ?_
      refine b_eq (x := 30) (by decide) ?_
      refine f_iln 0 rfl hL rfl ?_
      refine f_iadd rfl ?_
      refine b_eq (x := 32) (by decide) ?_
      exact f_ret1 rfl ⟨by rw [show lF (rl17 w f1 f2) = (if rR0 w f1 f2 3 2 = true then 32 else lF (rl18 w f1 f2)) from rfl, if_pos (bI1 c1)], hw8, hm8⟩
  have hK16 : ∀ (hc : ev_H) (L : ev_L), y_in yGw hc → gi hc = m → f_L L [(2, fi (1)), (1, fi (3)), (0, .ref 53)] → x_W none (1, 0, 3, 0, 2, 3, 67, 0, 0, ev_t176) 9 L [] hc 0 0 (fun r' h' => r' = some (fi (lF (rl16 w f1 f2))) ∧ y_in yGw h' ∧ gi h' = m) := fun hc L hw hm hL => by
    refine f_iln 0 rfl hL rfl ?_
    refine f_s [fi (5), fi (1)] rfl rfl ?_
    refine f_ic rfl (by decide) (by decide) (fun c_9 => absurd (show (5 : Int) ≤ (1 : Int) from c_9) (by decide)) (fun _ => ?_)
    refine f_aln 2 rfl hL rfl ?_
    refine f_iln 1 rfl hL rfl ?_
    refine f_iln 0 rfl hL rfl ?_
    refine m_k1 (t174 (a := 3) (b := 1) (by decide) (by decide) hwv h0 h1 h2) hw hm rfl rfl rfl (m_ar so53 hw rfl) rfl (fun hc9 hw9 hm9 => ?_)
    refine f_if rfl (bI_r _) (fun c1 => ?_) (fun c1 => ?_)
    · have c1 : (bI (rR0 w f1 f2 3 1) : Int) = (0 : Int) := c1
      refine f_inc 0 [(2, fi (2)), (1, fi (3)), (0, .ref 53)] rfl (by decide) hL rfl rfl (fun L12 hL12 => ?_)
      refine f_goto rfl ?_
      rw [show lF (rl16 w f1 f2) = (if rR0 w f1 f2 3 1 = true then 31 else lF (rl17 w f1 f2)) from rfl, bI0 c1, if_neg (by decide)]
      exact hK17 hc9 _ hw9 hm9 (hL12.sel [0, 1, 2] rfl)
    · have c1 : ¬ ((bI (rR0 w f1 f2 3 1) : Int) = (0 : Int)) := c1
      refine f_bipush (n := 10) rfl (by decide) ?_
      refine f_iln 1 rfl hL rfl ?_
      refine f_imul rfl ?_
      refine b_eq (x := 30) (by decide) ?_
      refine f_iln 0 rfl hL rfl ?_
      refine f_iadd rfl ?_
      refine b_eq (x := 31) (by decide) ?_
      exact f_ret1 rfl ⟨by rw [show lF (rl16 w f1 f2) = (if rR0 w f1 f2 3 1 = true then 31 else lF (rl17 w f1 f2)) from rfl, if_pos (bI1 c1)], hw9, hm9⟩
  have hK15 : ∀ (hc : ev_H) (L : ev_L), y_in yGw hc → gi hc = m → f_L L [(2, fi (0)), (1, fi (3)), (0, .ref 53)] → x_W none (1, 0, 3, 0, 2, 3, 67, 0, 0, ev_t176) 9 L [] hc 0 0 (fun r' h' => r' = some (fi (lF (rl15 w f1 f2))) ∧ y_in yGw h' ∧ gi h' = m) := fun hc L hw hm hL => by
    refine f_iln 0 rfl hL rfl ?_
    refine f_s [fi (5), fi (0)] rfl rfl ?_
    refine f_ic rfl (by decide) (by decide) (fun c_9 => absurd (show (5 : Int) ≤ (0 : Int) from c_9) (by decide)) (fun _ => ?_)
    refine f_aln 2 rfl hL rfl ?_
    refine f_iln 1 rfl hL rfl ?_
    refine f_iln 0 rfl hL rfl ?_
    refine m_k1 (t174 (a := 3) (b := 0) (by decide) (by decide) hwv h0 h1 h2) hw hm rfl rfl rfl (m_ar so53 hw rfl) rfl (fun hc10 hw10 hm10 => ?_)
    refine f_if rfl (bI_r _) (fun c1 => ?_) (fun c1 => ?_)
    · have c1 : (bI (rR0 w f1 f2 3 0) : Int) = (0 : Int) := c1
      refine f_inc 0 [(2, fi (1)), (1, fi (3)), (0, .ref 53)] rfl (by decide) hL rfl rfl (fun L13 hL13 => ?_)
      refine f_goto rfl ?_
      rw [show lF (rl15 w f1 f2) = (if rR0 w f1 f2 3 0 = true then 30 else lF (rl16 w f1 f2)) from rfl, bI0 c1, if_neg (by decide)]
      exact hK16 hc10 _ hw10 hm10 (hL13.sel [0, 1, 2] rfl)
    · have c1 : ¬ ((bI (rR0 w f1 f2 3 0) : Int) = (0 : Int)) := c1
      refine f_bipush (n := 10) rfl (by decide) ?_
      refine f_iln 1 rfl hL rfl ?_
      refine f_imul rfl ?_
      refine b_eq (x := 30) (by decide) ?_
      refine f_iln 0 rfl hL rfl ?_
      refine f_iadd rfl ?_
      refine b_eq (x := 30) (by decide) ?_
      exact f_ret1 rfl ⟨by rw [show lF (rl15 w f1 f2) = (if rR0 w f1 f2 3 0 = true then 30 else lF (rl16 w f1 f2)) from rfl, if_pos (bI1 c1)], hw10, hm10⟩
  have hK14 : ∀ (hc : ev_H) (L : ev_L), y_in yGw hc → gi hc = m → f_L L [(2, fi (4)), (1, fi (2)), (0, .ref 53)] → x_W none (1, 0, 3, 0, 2, 3, 67, 0, 0, ev_t176) 9 L [] hc 0 0 (fun r' h' => r' = some (fi (lF (rl14 w f1 f2))) ∧ y_in yGw h' ∧ gi h' = m) := fun hc L hw hm hL => by
    refine f_iln 0 rfl hL rfl ?_
    refine f_s [fi (5), fi (4)] rfl rfl ?_
    refine f_ic rfl (by decide) (by decide) (fun c_9 => absurd (show (5 : Int) ≤ (4 : Int) from c_9) (by decide)) (fun _ => ?_)
    refine f_aln 2 rfl hL rfl ?_
    refine f_iln 1 rfl hL rfl ?_
    refine f_iln 0 rfl hL rfl ?_
    refine m_k1 (t174 (a := 2) (b := 4) (by decide) (by decide) hwv h0 h1 h2) hw hm rfl rfl rfl (m_ar so53 hw rfl) rfl (fun hc11 hw11 hm11 => ?_)
    refine f_if rfl (bI_r _) (fun c1 => ?_) (fun c1 => ?_)
    · have c1 : (bI (rR0 w f1 f2 2 4) : Int) = (0 : Int) := c1
      refine f_inc 0 [(2, fi (5)), (1, fi (2)), (0, .ref 53)] rfl (by decide) hL rfl rfl (fun L14 hL14 => ?_)
      refine f_goto rfl ?_
      refine f_iln 0 rfl hL14 rfl ?_
      refine f_s [fi (5), fi (5)] rfl rfl ?_
      refine f_ic rfl (by decide) (by decide) (fun _ => ?_) (fun c_9 => absurd (show (5 : Int) ≤ (5 : Int) from (by decide)) c_9)
      refine f_inc 1 [(1, fi (3)), (2, fi (5)), (0, .ref 53)] rfl (by decide) hL14 rfl rfl (fun L15 hL15 => ?_)
      refine f_goto rfl ?_
      refine f_iln 0 rfl hL15 rfl ?_
      refine f_s [fi (5), fi (3)] rfl rfl ?_
      refine f_ic rfl (by decide) (by decide) (fun c_9 => absurd (show (5 : Int) ≤ (3 : Int) from c_9) (by decide)) (fun _ => ?_)
      refine f_s [fi (0)] rfl rfl ?_
      refine f_istn [(2, fi (0)), (1, fi (3)), (0, .ref 53)] rfl (by decide) hL15 rfl (fun L16 hL16 => ?_)
      rw [show lF (rl14 w f1 f2) = (if rR0 w f1 f2 2 4 = true then 24 else lF (rl15 w f1 f2)) from rfl, bI0 c1, if_neg (by decide)]
      exact hK15 hc11 _ hw11 hm11 (hL16.sel [0, 1, 2] rfl)
    · have c1 : ¬ ((bI (rR0 w f1 f2 2 4) : Int) = (0 : Int)) := c1
      refine f_bipush (n := 10) rfl (by decide) ?_
      refine f_iln 1 rfl hL rfl ?_
      refine f_imul rfl ?_
      refine b_eq (x := 20) (by decide) ?_
      refine f_iln 0 rfl hL rfl ?_
      refine f_iadd rfl ?_
      refine b_eq (x := 24) (by decide) ?_
      exact f_ret1 rfl ⟨by rw [show lF (rl14 w f1 f2) = (if rR0 w f1 f2 2 4 = true then 24 else lF (rl15 w f1 f2)) from rfl, if_pos (bI1 c1)], hw11, hm11⟩
  have hK13 : ∀ (hc : ev_H) (L : ev_L), y_in yGw hc → gi hc = m → f_L L [(2, fi (3)), (1, fi (2)), (0, .ref 53)] → x_W none (1, 0, 3, 0, 2, 3, 67, 0, 0, ev_t176) 9 L [] hc 0 0 (fun r' h' => r' = some (fi (lF (rl13 w f1 f2))) ∧ y_in yGw h' ∧ gi h' = m) := fun hc L hw hm hL => by
    refine f_iln 0 rfl hL rfl ?_
    refine f_s [fi (5), fi (3)] rfl rfl ?_
    refine f_ic rfl (by decide) (by decide) (fun c_9 => absurd (show (5 : Int) ≤ (3 : Int) from c_9) (by decide)) (fun _ => ?_)
    refine f_aln 2 rfl hL rfl ?_
    refine f_iln 1 rfl hL rfl ?_
    refine f_iln 0 rfl hL rfl ?_
    refine m_k1 (t174 (a := 2) (b := 3) (by decide) (by decide) hwv h0 h1 h2) hw hm rfl rfl rfl (m_ar so53 hw rfl) rfl (fun hc12 hw12 hm12 => ?_)
    refine f_if rfl (bI_r _) (fun c1 => ?_) (fun c1 => ?_)
    · have c1 : (bI (rR0 w f1 f2 2 3) : Int) = (0 : Int) := c1
      refine f_inc 0 [(2, fi (4)), (1, fi (2)), (0, .ref 53)] rfl (by decide) hL rfl rfl (fun L17 hL17 => ?_)
      refine f_goto rfl ?_
      rw [show lF (rl13 w f1 f2) = (if rR0 w f1 f2 2 3 = true then 23 else lF (rl14 w f1 f2)) from rfl, bI0 c1, if_neg (by decide)]
      exact hK14 hc12 _ hw12 hm12 (hL17.sel [0, 1, 2] rfl)
    · have c1 : ¬ ((bI (rR0 w f1 f2 2 3) : Int) = (0 : Int)) := c1
      refine f_bipush (n := 10) rfl (by decide) ?_
      refine f_iln 1 rfl hL rfl ?_
      refine f_imul rfl ?_
      refine b_eq (x := 20) (by decide) ?_
      refine f_iln 0 rfl hL rfl ?_
      refine f_iadd rfl ?_
      refine b_eq (x := 23) (by decide) ?_
      exact f_ret1 rfl ⟨by rw [show lF (rl13 w f1 f2) = (if rR0 w f1 f2 2 3 = true then 23 else lF (rl14 w f1 f2)) from rfl, if_pos (bI1 c1)], hw12, hm12⟩
  have hK12 : ∀ (hc : ev_H) (L : ev_L), y_in yGw hc → gi hc = m → f_L L [(2, fi (2)), (1, fi (2)), (0, .ref 53)] → x_W none (1, 0, 3, 0, 2, 3, 67, 0, 0, ev_t176) 9 L [] hc 0 0 (fun r' h' => r' = some (fi (lF (rl12 w f1 f2))) ∧ y_in yGw h' ∧ gi h' = m) := fun hc L hw hm hL => by
    refine f_iln 0 rfl hL rfl ?_
    refine f_s [fi (5), fi (2)] rfl rfl ?_
    refine f_ic rfl (by decide) (by decide) (fun c_9 => absurd (show (5 : Int) ≤ (2 : Int) from c_9) (by decide)) (fun _ => ?_)
    refine f_aln 2 rfl hL rfl ?_
    refine f_iln 1 rfl hL rfl ?_
    refine f_iln 0 rfl hL rfl ?_
    refine m_k1 (t174 (a := 2) (b := 2) (by decide) (by decide) hwv h0 h1 h2) hw hm rfl rfl rfl (m_ar so53 hw rfl) rfl (fun hc13 hw13 hm13 => ?_)
    refine f_if rfl (bI_r _) (fun c1 => ?_) (fun c1 => ?_)
    · have c1 : (bI (rR0 w f1 f2 2 2) : Int) = (0 : Int) := c1
      refine f_inc 0 [(2, fi (3)), (1, fi (2)), (0, .ref 53)] rfl (by decide) hL rfl rfl (fun L18 hL18 => ?_)
      refine f_goto rfl ?_
      rw [show lF (rl12 w f1 f2) = (if rR0 w f1 f2 2 2 = true then 22 else lF (rl13 w f1 f2)) from rfl, bI0 c1, if_neg (by decide)]
      exact hK13 hc13 _ hw13 hm13 (hL18.sel [0, 1, 2] rfl)
    · have c1 : ¬ ((bI (rR0 w f1 f2 2 2) : Int) = (0 : Int)) := c1
      refine f_bipush (n := 10) rfl (by decide) ?_
      refine f_iln 1 rfl hL rfl ?_
      refine f_imul rfl ?_
      refine b_eq (x := 20) (by decide) ?_
      refine f_iln 0 rfl hL rfl ?_
      refine f_iadd rfl ?_
      refine b_eq (x := 22) (by decide) ?_
      exact f_ret1 rfl ⟨by rw [show lF (rl12 w f1 f2) = (if rR0 w f1 f2 2 2 = true then 22 else lF (rl13 w f1 f2)) from rfl, if_pos (bI1 c1)], hw13, hm13⟩
  have hK11 : ∀ (hc : ev_H) (L : ev_L), y_in yGw hc → gi hc = m → f_L L [(2, fi (1)), (1, fi (2)), (0, .ref 53)] → x_W none (1, 0, 3, 0, 2, 3, 67, 0, 0, ev_t176) 9 L [] hc 0 0 (fun r' h' => r' = some (fi (lF (rl11 w f1 f2))) ∧ y_in yGw h' ∧ gi h' = m) := fun hc L hw hm hL => by
    refine f_iln 0 rfl hL rfl ?_
    refine f_s [fi (5), fi (1)] rfl rfl ?_
    refine f_ic rfl (by decide) (by decide) (fun c_9 => absurd (show (5 : Int) ≤ (1 : Int) from c_9) (by decide)) (fun _ => ?_)
    refine f_aln 2 rfl hL rfl ?_
    refine f_iln 1 rfl hL rfl ?_
    refine f_iln 0 rfl hL rfl ?_
    refine m_k1 (t174 (a := 2) (b := 1) (by decide) (by decide) hwv h0 h1 h2) hw hm rfl rfl rfl (m_ar so53 hw rfl) rfl (fun hc14 hw14 hm14 => ?_)
    refine f_if rfl (bI_r _) (fun c1 => ?_) (fun c1 => ?_)
    · have c1 : (bI (rR0 w f1 f2 2 1) : Int) = (0 : Int) := c1
      refine f_inc 0 [(2, fi (2)), (1, fi (2)), (0, .ref 53)] rfl (by decide) hL rfl rfl (fun L19 hL19 => ?_)
      refine f_goto rfl ?_
      rw [show lF (rl11 w f1 f2) = (if rR0 w f1 f2 2 1 = true then 21 else lF (rl12 w f1 f2)) from rfl, bI0 c1, if_neg (by decide)]
      exact hK12 hc14 _ hw14 hm14 (hL19.sel [0, 1, 2] rfl)
    · have c1 : ¬ ((bI (rR0 w f1 f2 2 1) : Int) = (0 : Int)) := c1
      refine f_bipush (n := 10) rfl (by decide) ?_
      refine f_iln 1 rfl hL rfl ?_
      refine f_imul rfl ?_
      refine b_eq (x := 20) (by decide) ?_
      refine f_iln 0 rfl hL rfl ?_
      refine f_iadd rfl ?_
      refine b_eq (x := 21) (by decide) ?_
      exact f_ret1 rfl ⟨by rw [show lF (rl11 w f1 f2) = (if rR0 w f1 f2 2 1 = true then 21 else lF (rl12 w f1 f2)) from rfl, if_pos (bI1 c1)], hw14, hm14⟩
  have hK10 : ∀ (hc : ev_H) (L : ev_L), y_in yGw hc → gi hc = m → f_L L [(2, fi (0)), (1, fi (2)), (0, .ref 53)] → x_W none (1, 0, 3, 0, 2, 3, 67, 0, 0, ev_t176) 9 L [] hc 0 0 (fun r' h' => r' = some (fi (lF (rl10 w f1 f2))) ∧ y_in yGw h' ∧ gi h' = m) := fun hc L hw hm hL => by
    refine f_iln 0 rfl hL rfl ?_
    refine f_s [fi (5), fi (0)] rfl rfl ?_
    refine f_ic rfl (by decide) (by decide) (fun c_9 => absurd (show (5 : Int) ≤ (0 : Int) from c_9) (by decide)) (fun _ => ?_)
    refine f_aln 2 rfl hL rfl ?_
    refine f_iln 1 rfl hL rfl ?_
    refine f_iln 0 rfl hL rfl ?_
    refine m_k1 (t174 (a := 2) (b := 0) (by decide) (by decide) hwv h0 h1 h2) hw hm rfl rfl rfl (m_ar so53 hw rfl) rfl (fun hc15 hw15 hm15 => ?_)
    refine f_if rfl (bI_r _) (fun c1 => ?_) (fun c1 => ?_)
    · have c1 : (bI (rR0 w f1 f2 2 0) : Int) = (0 : Int) := c1
      refine f_inc 0 [(2, fi (1)), (1, fi (2)), (0, .ref 53)] rfl (by decide) hL rfl rfl (fun L20 hL20 => ?_)
      refine f_goto rfl ?_
      rw [show lF (rl10 w f1 f2) = (if rR0 w f1 f2 2 0 = true then 20 else lF (rl11 w f1 f2)) from rfl, bI0 c1, if_neg (by decide)]
      exact hK11 hc15 _ hw15 hm15 (hL20.sel [0, 1, 2] rfl)
    · have c1 : ¬ ((bI (rR0 w f1 f2 2 0) : Int) = (0 : Int)) := c1
      refine f_bipush (n := 10) rfl (by decide) ?_
      refine f_iln 1 rfl hL rfl ?_
      refine f_imul rfl ?_
      refine b_eq (x := 20) (by decide) ?_
      refine f_iln 0 rfl hL rfl ?_
      refine f_iadd rfl ?_
      refine b_eq (x := 20) (by decide) ?_
      exact f_ret1 rfl ⟨by rw [show lF (rl10 w f1 f2) = (if rR0 w f1 f2 2 0 = true then 20 else lF (rl11 w f1 f2)) from rfl, if_pos (bI1 c1)], hw15, hm15⟩
  have hK9 : ∀ (hc : ev_H) (L : ev_L), y_in yGw hc → gi hc = m → f_L L [(2, fi (4)), (1, fi (1)), (0, .ref 53)] → x_W none (1, 0, 3, 0, 2, 3, 67, 0, 0, ev_t176) 9 L [] hc 0 0 (fun r' h' => r' = some (fi (lF (rl9 w f1 f2))) ∧ y_in yGw h' ∧ gi h' = m) := fun hc L hw hm hL => by
    refine f_iln 0 rfl hL rfl ?_
    refine f_s [fi (5), fi (4)] rfl rfl ?_
    refine f_ic rfl (by decide) (by decide) (fun c_9 => absurd (show (5 : Int) ≤ (4 : Int) from c_9) (by decide)) (fun _ => ?_)
    refine f_aln 2 rfl hL rfl ?_
    refine f_iln 1 rfl hL rfl ?_
    refine f_iln 0 rfl hL rfl ?_
    refine m_k1 (t174 (a := 1) (b := 4) (by decide) (by decide) hwv h0 h1 h2) hw hm rfl rfl rfl (m_ar so53 hw rfl) rfl (fun hc16 hw16 hm16 => ?_)
    refine f_if rfl (bI_r _) (fun c1 => ?_) (fun c1 => ?_)
    · have c1 : (bI (rR0 w f1 f2 1 4) : Int) = (0 : Int) := c1
      refine f_inc 0 [(2, fi (5)), (1, fi (1)), (0, .ref 53)] rfl (by decide) hL rfl rfl (fun L21 hL21 => ?_)
      refine f_goto rfl ?_
      refine f_iln 0 rfl hL21 rfl ?_
      refine f_s [fi (5), fi (5)] rfl rfl ?_
      refine f_ic rfl (by decide) (by decide) (fun _ => ?_) (fun c_9 => absurd (show (5 : Int) ≤ (5 : Int) from (by decide)) c_9)
      refine f_inc 1 [(1, fi (2)), (2, fi (5)), (0, .ref 53)] rfl (by decide) hL21 rfl rfl (fun L22 hL22 => ?_)
      refine f_goto rfl ?_
      refine f_iln 0 rfl hL22 rfl ?_
      refine f_s [fi (5), fi (2)] rfl rfl ?_
      refine f_ic rfl (by decide) (by decide) (fun c_9 => absurd (show (5 : Int) ≤ (2 : Int) from c_9) (by decide)) (fun _ => ?_)
      refine f_s [fi (0)] rfl rfl ?_
      refine f_istn [(2, fi (0)), (1, fi (2)), (0, .ref 53)] rfl (by decide) hL22 rfl (fun L23 hL23 => ?_)
      rw [show lF (rl9 w f1 f2) = (if rR0 w f1 f2 1 4 = true then 14 else lF (rl10 w f1 f2)) from rfl, bI0 c1, if_neg (by decide)]
      exact hK10 hc16 _ hw16 hm16 (hL23.sel [0, 1, 2] rfl)
    · have c1 : ¬ ((bI (rR0 w f1 f2 1 4) : Int) = (0 : Int)) := c1
      refine f_bipush (n := 10) rfl (by decide) ?_
      refine f_iln 1 rfl hL rfl ?_
      refine f_imul rfl ?_
      refine b_eq (x := 10) (by decide) ?_
      refine f_iln 0 rfl hL rfl ?_
      refine f_iadd rfl ?_
      refine b_eq (x := 14) (by decide) ?_
      exact f_ret1 rfl ⟨by rw [show lF (rl9 w f1 f2) = (if rR0 w f1 f2 1 4 = true then 14 else lF (rl10 w f1 f2)) from rfl, if_pos (bI1 c1)], hw16, hm16⟩
  have hK8 : ∀ (hc : ev_H) (L : ev_L), y_in yGw hc → gi hc = m → f_L L [(2, fi (3)), (1, fi (1)), (0, .ref 53)] → x_W none (1, 0, 3, 0, 2, 3, 67, 0, 0, ev_t176) 9 L [] hc 0 0 (fun r' h' => r' = some (fi (lF (rl8 w f1 f2))) ∧ y_in yGw h' ∧ gi h' = m) := fun hc L hw hm hL => by
    refine f_iln 0 rfl hL rfl ?_
    refine f_s [fi (5), fi (3)] rfl rfl ?_
    refine f_ic rfl (by decide) (by decide) (fun c_9 => absurd (show (5 : Int) ≤ (3 : Int) from c_9) (by decide)) (fun _ => ?_)
    refine f_aln 2 rfl hL rfl ?_
    refine f_iln 1 rfl hL rfl ?_
    refine f_iln 0 rfl hL rfl ?_
    refine m_k1 (t174 (a := 1) (b := 3) (by decide) (by decide) hwv h0 h1 h2) hw hm rfl rfl rfl (m_ar so53 hw rfl) rfl (fun hc17 hw17 hm17 => ?_)
    refine f_if rfl (bI_r _) (fun c1 => ?_) (fun c1 => ?_)
    · have c1 : (bI (rR0 w f1 f2 1 3) : Int) = (0 : Int) := c1
      refine f_inc 0 [(2, fi (4)), (1, fi (1)), (0, .ref 53)] rfl (by decide) hL rfl rfl (fun L24 hL24 => ?_)
      refine f_goto rfl ?_
      rw [show lF (rl8 w f1 f2) = (if rR0 w f1 f2 1 3 = true then 13 else lF (rl9 w f1 f2)) from rfl, bI0 c1, if_neg (by decide)]
      exact hK9 hc17 _ hw17 hm17 (hL24.sel [0, 1, 2] rfl)
    · have c1 : ¬ ((bI (rR0 w f1 f2 1 3) : Int) = (0 : Int)) := c1
      refine f_bipush (n := 10) rfl (by decide) ?_
      refine f_iln 1 rfl hL rfl ?_
      refine f_imul rfl ?_
      refine b_eq (x := 10) (by decide) ?_
      refine f_iln 0 rfl hL rfl ?_
      refine f_iadd rfl ?_
      refine b_eq (x := 13) (by decide) ?_
      exact f_ret1 rfl ⟨by rw [show lF (rl8 w f1 f2) = (if rR0 w f1 f2 1 3 = true then 13 else lF (rl9 w f1 f2)) from rfl, if_pos (bI1 c1)], hw17, hm17⟩
  have hK7 : ∀ (hc : ev_H) (L : ev_L), y_in yGw hc → gi hc = m → f_L L [(2, fi (2)), (1, fi (1)), (0, .ref 53)] → x_W none (1, 0, 3, 0, 2, 3, 67, 0, 0, ev_t176) 9 L [] hc 0 0 (fun r' h' => r' = some (fi (lF (rl7 w f1 f2))) ∧ y_in yGw h' ∧ gi h' = m) := fun hc L hw hm hL => by
    refine f_iln 0 rfl hL rfl ?_
    refine f_s [fi (5), fi (2)] rfl rfl ?_
    refine f_ic rfl (by decide) (by decide) (fun c_9 => absurd (show (5 : Int) ≤ (2 : Int) from c_9) (by decide)) (fun _ => ?_)
    refine f_aln 2 rfl hL rfl ?_
    refine f_iln 1 rfl hL rfl ?_
    refine f_iln 0 rfl hL rfl ?_
    refine m_k1 (t174 (a := 1) (b := 2) (by decide) (by decide) hwv h0 h1 h2) hw hm rfl rfl rfl (m_ar so53 hw rfl) rfl (fun hc18 hw18 hm18 => ?_)
    refine f_if rfl (bI_r _) (fun c1 => ?_) (fun c1 => ?_)
    · have c1 : (bI (rR0 w f1 f2 1 2) : Int) = (0 : Int) := c1
      refine f_inc 0 [(2, fi (3)), (1, fi (1)), (0, .ref 53)] rfl (by decide) hL rfl rfl (fun L25 hL25 => ?_)
      refine f_goto rfl ?_
      rw [show lF (rl7 w f1 f2) = (if rR0 w f1 f2 1 2 = true then 12 else lF (rl8 w f1 f2)) from rfl, bI0 c1, if_neg (by decide)]
      exact hK8 hc18 _ hw18 hm18 (hL25.sel [0, 1, 2] rfl)
    · have c1 : ¬ ((bI (rR0 w f1 f2 1 2) : Int) = (0 : Int)) := c1
      refine f_bipush (n := 10) rfl (by decide) ?_
      refine f_iln 1 rfl hL rfl ?_
      refine f_imul rfl ?_
      refine b_eq (x := 10) (by decide) ?_
      refine f_iln 0 rfl hL rfl ?_
      refine f_iadd rfl ?_
      refine b_eq (x := 12) (by decide) ?_
      exact f_ret1 rfl ⟨by rw [show lF (rl7 w f1 f2) = (if rR0 w f1 f2 1 2 = true then 12 else lF (rl8 w f1 f2)) from rfl, if_pos (bI1 c1)], hw18, hm18⟩
  have hK6 : ∀ (hc : ev_H) (L : ev_L), y_in yGw hc → gi hc = m → f_L L [(2, fi (1)), (1, fi (1)), (0, .ref 53)] → x_W none (1, 0, 3, 0, 2, 3, 67, 0, 0, ev_t176) 9 L [] hc 0 0 (fun r' h' => r' = some (fi (lF (rl6 w f1 f2))) ∧ y_in yGw h' ∧ gi h' = m) := fun hc L hw hm hL => by
    refine f_iln 0 rfl hL rfl ?_
    refine f_s [fi (5), fi (1)] rfl rfl ?_
    refine f_ic rfl (by decide) (by decide) (fun c_9 => absurd (show (5 : Int) ≤ (1 : Int) from c_9) (by decide)) (fun _ => ?_)
    refine f_aln 2 rfl hL rfl ?_
    refine f_iln 1 rfl hL rfl ?_
    refine f_iln 0 rfl hL rfl ?_
    refine m_k1 (t174 (a := 1) (b := 1) (by decide) (by decide) hwv h0 h1 h2) hw hm rfl rfl rfl (m_ar so53 hw rfl) rfl (fun hc19 hw19 hm19 => ?_)
    refine f_if rfl (bI_r _) (fun c1 => ?_) (fun c1 => ?_)
    · have c1 : (bI (rR0 w f1 f2 1 1) : Int) = (0 : Int) := c1
      refine f_inc 0 [(2, fi (2)), (1, fi (1)), (0, .ref 53)] rfl (by decide) hL rfl rfl (fun L26 hL26 => ?_)
      refine f_goto rfl ?_
      rw [show lF (rl6 w f1 f2) = (if rR0 w f1 f2 1 1 = true then 11 else lF (rl7 w f1 f2)) from rfl, bI0 c1, if_neg (by decide)]
      exact hK7 hc19 _ hw19 hm19 (hL26.sel [0, 1, 2] rfl)
    · have c1 : ¬ ((bI (rR0 w f1 f2 1 1) : Int) = (0 : Int)) := c1
      refine f_bipush (n := 10) rfl (by decide) ?_
      refine f_iln 1 rfl hL rfl ?_
      refine f_imul rfl ?_
      refine b_eq (x := 10) (by decide) ?_
      refine f_iln 0 rfl hL rfl ?_
      refine f_iadd rfl ?_
      refine b_eq (x := 11) (by decide) ?_
      exact f_ret1 rfl ⟨by rw [show lF (rl6 w f1 f2) = (if rR0 w f1 f2 1 1 = true then 11 else lF (rl7 w f1 f2)) from rfl, if_pos (bI1 c1)], hw19, hm19⟩
  have hK5 : ∀ (hc : ev_H) (L : ev_L), y_in yGw hc → gi hc = m → f_L L [(2, fi (0)), (1, fi (1)), (0, .ref 53)] → x_W none (1, 0, 3, 0, 2, 3, 67, 0, 0, ev_t176) 9 L [] hc 0 0 (fun r' h' => r' = some (fi (lF (rl5 w f1 f2))) ∧ y_in yGw h' ∧ gi h' = m) := fun hc L hw hm hL => by
    refine f_iln 0 rfl hL rfl ?_
    refine f_s [fi (5), fi (0)] rfl rfl ?_
    refine f_ic rfl (by decide) (by decide) (fun c_9 => absurd (show (5 : Int) ≤ (0 : Int) from c_9) (by decide)) (fun _ => ?_)
    refine f_aln 2 rfl hL rfl ?_
    refine f_iln 1 rfl hL rfl ?_
    refine f_iln 0 rfl hL rfl ?_
    refine m_k1 (t174 (a := 1) (b := 0) (by decide) (by decide) hwv h0 h1 h2) hw hm rfl rfl rfl (m_ar so53 hw rfl) rfl (fun hc20 hw20 hm20 => ?_)
    refine f_if rfl (bI_r _) (fun c1 => ?_) (fun c1 => ?_)
    · have c1 : (bI (rR0 w f1 f2 1 0) : Int) = (0 : Int) := c1
      refine f_inc 0 [(2, fi (1)), (1, fi (1)), (0, .ref 53)] rfl (by decide) hL rfl rfl (fun L27 hL27 => ?_)
      refine f_goto rfl ?_
      rw [show lF (rl5 w f1 f2) = (if rR0 w f1 f2 1 0 = true then 10 else lF (rl6 w f1 f2)) from rfl, bI0 c1, if_neg (by decide)]
      exact hK6 hc20 _ hw20 hm20 (hL27.sel [0, 1, 2] rfl)
    · have c1 : ¬ ((bI (rR0 w f1 f2 1 0) : Int) = (0 : Int)) := c1
      refine f_bipush (n := 10) rfl (by decide) ?_
      refine f_iln 1 rfl hL rfl ?_
      refine f_imul rfl ?_
      refine b_eq (x := 10) (by decide) ?_
      refine f_iln 0 rfl hL rfl ?_
      refine f_iadd rfl ?_
      refine b_eq (x := 10) (by decide) ?_
      exact f_ret1 rfl ⟨by rw [show lF (rl5 w f1 f2) = (if rR0 w f1 f2 1 0 = true then 10 else lF (rl6 w f1 f2)) from rfl, if_pos (bI1 c1)], hw20, hm20⟩
  have hK4 : ∀ (hc : ev_H) (L : ev_L), y_in yGw hc → gi hc = m → f_L L [(2, fi (4)), (1, fi (0)), (0, .ref 53)] → x_W none (1, 0, 3, 0, 2, 3, 67, 0, 0, ev_t176) 9 L [] hc 0 0 (fun r' h' => r' = some (fi (lF (rl4 w f1 f2))) ∧ y_in yGw h' ∧ gi h' = m) := fun hc L hw hm hL => by
    refine f_iln 0 rfl hL rfl ?_
    refine f_s [fi (5), fi (4)] rfl rfl ?_
    refine f_ic rfl (by decide) (by decide) (fun c_9 => absurd (show (5 : Int) ≤ (4 : Int) from c_9) (by decide)) (fun _ => ?_)
    refine f_aln 2 rfl hL rfl ?_
    refine f_iln 1 rfl hL rfl ?_
    refine f_iln 0 rfl hL rfl ?_
    refine m_k1 (t174 (a := 0) (b := 4) (by decide) (by decide) hwv h0 h1 h2) hw hm rfl rfl rfl (m_ar so53 hw rfl) rfl (fun hc21 hw21 hm21 => ?_)
    refine f_if rfl (bI_r _) (fun c1 => ?_) (fun c1 => ?_)
    · have c1 : (bI (rR0 w f1 f2 0 4) : Int) = (0 : Int) := c1
      refine f_inc 0 [(2, fi (5)), (1, fi (0)), (0, .ref 53)] rfl (by decide) hL rfl rfl (fun L28 hL28 => ?_)
      refine f_goto rfl ?_
      refine f_iln 0 rfl hL28 rfl ?_
      refine f_s [fi (5), fi (5)] rfl rfl ?_
      refine f_ic rfl (by decide) (by decide) (fun _ => ?_) (fun c_9 => absurd (show (5 : Int) ≤ (5 : Int) from (by decide)) c_9)
      refine f_inc 1 [(1, fi (1)), (2, fi (5)), (0, .ref 53)] rfl (by decide) hL28 rfl rfl (fun L29 hL29 => ?_)
      refine f_goto rfl ?_
      refine f_iln 0 rfl hL29 rfl ?_
      refine f_s [fi (5), fi (1)] rfl rfl ?_
      refine f_ic rfl (by decide) (by decide) (fun c_9 => absurd (show (5 : Int) ≤ (1 : Int) from c_9) (by decide)) (fun _ => ?_)
      refine f_s [fi (0)] rfl rfl ?_
      refine f_istn [(2, fi (0)), (1, fi (1)), (0, .ref 53)] rfl (by decide) hL29 rfl (fun L30 hL30 => ?_)
      rw [show lF (rl4 w f1 f2) = (if rR0 w f1 f2 0 4 = true then 4 else lF (rl5 w f1 f2)) from rfl, bI0 c1, if_neg (by decide)]
      exact hK5 hc21 _ hw21 hm21 (hL30.sel [0, 1, 2] rfl)
    · have c1 : ¬ ((bI (rR0 w f1 f2 0 4) : Int) = (0 : Int)) := c1
      refine f_bipush (n := 10) rfl (by decide) ?_
      refine f_iln 1 rfl hL rfl ?_
      refine f_imul rfl ?_
      refine b_eq (x := 0) (by decide) ?_
      refine f_iln 0 rfl hL rfl ?_
      refine f_iadd rfl ?_
      refine b_eq (x := 4) (by decide) ?_
      exact f_ret1 rfl ⟨by rw [show lF (rl4 w f1 f2) = (if rR0 w f1 f2 0 4 = true then 4 else lF (rl5 w f1 f2)) from rfl, if_pos (bI1 c1)], hw21, hm21⟩
  have hK3 : ∀ (hc : ev_H) (L : ev_L), y_in yGw hc → gi hc = m → f_L L [(2, fi (3)), (1, fi (0)), (0, .ref 53)] → x_W none (1, 0, 3, 0, 2, 3, 67, 0, 0, ev_t176) 9 L [] hc 0 0 (fun r' h' => r' = some (fi (lF (rl3 w f1 f2))) ∧ y_in yGw h' ∧ gi h' = m) := fun hc L hw hm hL => by
    refine f_iln 0 rfl hL rfl ?_
    refine f_s [fi (5), fi (3)] rfl rfl ?_
    refine f_ic rfl (by decide) (by decide) (fun c_9 => absurd (show (5 : Int) ≤ (3 : Int) from c_9) (by decide)) (fun _ => ?_)
    refine f_aln 2 rfl hL rfl ?_
    refine f_iln 1 rfl hL rfl ?_
    refine f_iln 0 rfl hL rfl ?_
    refine m_k1 (t174 (a := 0) (b := 3) (by decide) (by decide) hwv h0 h1 h2) hw hm rfl rfl rfl (m_ar so53 hw rfl) rfl (fun hc22 hw22 hm22 => ?_)
    refine f_if rfl (bI_r _) (fun c1 => ?_) (fun c1 => ?_)
    · have c1 : (bI (rR0 w f1 f2 0 3) : Int) = (0 : Int) := c1
      refine f_inc 0 [(2, fi (4)), (1, fi (0)), (0, .ref 53)] rfl (by decide) hL rfl rfl (fun L31 hL31 => ?_)
      refine f_goto rfl ?_
      rw [show lF (rl3 w f1 f2) = (if rR0 w f1 f2 0 3 = true then 3 else lF (rl4 w f1 f2)) from rfl, bI0 c1, if_neg (by decide)]
      exact hK4 hc22 _ hw22 hm22 (hL31.sel [0, 1, 2] rfl)
    · have c1 : ¬ ((bI (rR0 w f1 f2 0 3) : Int) = (0 : Int)) := c1
      refine f_bipush (n := 10) rfl (by decide) ?_
      refine f_iln 1 rfl hL rfl ?_
      refine f_imul rfl ?_
      refine b_eq (x := 0) (by decide) ?_
      refine f_iln 0 rfl hL rfl ?_
      refine f_iadd rfl ?_
      refine b_eq (x := 3) (by decide) ?_
      exact f_ret1 rfl ⟨by rw [show lF (rl3 w f1 f2) = (if rR0 w f1 f2 0 3 = true then 3 else lF (rl4 w f1 f2)) from rfl, if_pos (bI1 c1)], hw22, hm22⟩
  have hK2 : ∀ (hc : ev_H) (L : ev_L), y_in yGw hc → gi hc = m → f_L L [(2, fi (2)), (1, fi (0)), (0, .ref 53)] → x_W none (1, 0, 3, 0, 2, 3, 67, 0, 0, ev_t176) 9 L [] hc 0 0 (fun r' h' => r' = some (fi (lF (rl2 w f1 f2))) ∧ y_in yGw h' ∧ gi h' = m) := fun hc L hw hm hL => by
    refine f_iln 0 rfl hL rfl ?_
    refine f_s [fi (5), fi (2)] rfl rfl ?_
    refine f_ic rfl (by decide) (by decide) (fun c_9 => absurd (show (5 : Int) ≤ (2 : Int) from c_9) (by decide)) (fun _ => ?_)
    refine f_aln 2 rfl hL rfl ?_
    refine f_iln 1 rfl hL rfl ?_
    refine f_iln 0 rfl hL rfl ?_
    refine m_k1 (t174 (a := 0) (b := 2) (by decide) (by decide) hwv h0 h1 h2) hw hm rfl rfl rfl (m_ar so53 hw rfl) rfl (fun hc23 hw23 hm23 => ?_)
    refine f_if rfl (bI_r _) (fun c1 => ?_) (fun c1 => ?_)
    · have c1 : (bI (rR0 w f1 f2 0 2) : Int) = (0 : Int) := c1
      refine f_inc 0 [(2, fi (3)), (1, fi (0)), (0, .ref 53)] rfl (by decide) hL rfl rfl (fun L32 hL32 => ?_)
      refine f_goto rfl ?_
      rw [show lF (rl2 w f1 f2) = (if rR0 w f1 f2 0 2 = true then 2 else lF (rl3 w f1 f2)) from rfl, bI0 c1, if_neg (by decide)]
      exact hK3 hc23 _ hw23 hm23 (hL32.sel [0, 1, 2] rfl)
    · have c1 : ¬ ((bI (rR0 w f1 f2 0 2) : Int) = (0 : Int)) := c1
      refine f_bipush (n := 10) rfl (by decide) ?_
      refine f_iln 1 rfl hL rfl ?_
      refine f_imul rfl ?_
      refine b_eq (x := 0) (by decide) ?_
      refine f_iln 0 rfl hL rfl ?_
      refine f_iadd rfl ?_
      refine b_eq (x := 2) (by decide) ?_
      exact f_ret1 rfl ⟨by rw [show lF (rl2 w f1 f2) = (if rR0 w f1 f2 0 2 = true then 2 else lF (rl3 w f1 f2)) from rfl, if_pos (bI1 c1)], hw23, hm23⟩
  have hK1 : ∀ (hc : ev_H) (L : ev_L), y_in yGw hc → gi hc = m → f_L L [(2, fi (1)), (1, fi (0)), (0, .ref 53)] → x_W none (1, 0, 3, 0, 2, 3, 67, 0, 0, ev_t176) 9 L [] hc 0 0 (fun r' h' => r' = some (fi (lF (rl1 w f1 f2))) ∧ y_in yGw h' ∧ gi h' = m) := fun hc L hw hm hL => by
    refine f_iln 0 rfl hL rfl ?_
    refine f_s [fi (5), fi (1)] rfl rfl ?_
    refine f_ic rfl (by decide) (by decide) (fun c_9 => absurd (show (5 : Int) ≤ (1 : Int) from c_9) (by decide)) (fun _ => ?_)
    refine f_aln 2 rfl hL rfl ?_
    refine f_iln 1 rfl hL rfl ?_
    refine f_iln 0 rfl hL rfl ?_
    refine m_k1 (t174 (a := 0) (b := 1) (by decide) (by decide) hwv h0 h1 h2) hw hm rfl rfl rfl (m_ar so53 hw rfl) rfl (fun hc24 hw24 hm24 => ?_)
    refine f_if rfl (bI_r _) (fun c1 => ?_) (fun c1 => ?_)
    · have c1 : (bI (rR0 w f1 f2 0 1) : Int) = (0 : Int) := c1
      refine f_inc 0 [(2, fi (2)), (1, fi (0)), (0, .ref 53)] rfl (by decide) hL rfl rfl (fun L33 hL33 => ?_)
      refine f_goto rfl ?_
      rw [show lF (rl1 w f1 f2) = (if rR0 w f1 f2 0 1 = true then 1 else lF (rl2 w f1 f2)) from rfl, bI0 c1, if_neg (by decide)]
      exact hK2 hc24 _ hw24 hm24 (hL33.sel [0, 1, 2] rfl)
    · have c1 : ¬ ((bI (rR0 w f1 f2 0 1) : Int) = (0 : Int)) := c1
      refine f_bipush (n := 10) rfl (by decide) ?_
      refine f_iln 1 rfl hL rfl ?_
      refine f_imul rfl ?_
      refine b_eq (x := 0) (by decide) ?_
      refine f_iln 0 rfl hL rfl ?_
      refine f_iadd rfl ?_
      refine b_eq (x := 1) (by decide) ?_
      exact f_ret1 rfl ⟨by rw [show lF (rl1 w f1 f2) = (if rR0 w f1 f2 0 1 = true then 1 else lF (rl2 w f1 f2)) from rfl, if_pos (bI1 c1)], hw24, hm24⟩
  have hK0 : ∀ (hc : ev_H) (L : ev_L), y_in yGw hc → gi hc = m → f_L L [(2, fi (0)), (1, fi (0)), (0, .ref 53)] → x_W none (1, 0, 3, 0, 2, 3, 67, 0, 0, ev_t176) 9 L [] hc 0 0 (fun r' h' => r' = some (fi (lF (rl0 w f1 f2))) ∧ y_in yGw h' ∧ gi h' = m) := fun hc L hw hm hL => by
    refine f_iln 0 rfl hL rfl ?_
    refine f_s [fi (5), fi (0)] rfl rfl ?_
    refine f_ic rfl (by decide) (by decide) (fun c_9 => absurd (show (5 : Int) ≤ (0 : Int) from c_9) (by decide)) (fun _ => ?_)
    refine f_aln 2 rfl hL rfl ?_
    refine f_iln 1 rfl hL rfl ?_
    refine f_iln 0 rfl hL rfl ?_
    refine m_k1 (t174 (a := 0) (b := 0) (by decide) (by decide) hwv h0 h1 h2) hw hm rfl rfl rfl (m_ar so53 hw rfl) rfl (fun hc25 hw25 hm25 => ?_)
    refine f_if rfl (bI_r _) (fun c1 => ?_) (fun c1 => ?_)
    · have c1 : (bI (rR0 w f1 f2 0 0) : Int) = (0 : Int) := c1
      refine f_inc 0 [(2, fi (1)), (1, fi (0)), (0, .ref 53)] rfl (by decide) hL rfl rfl (fun L34 hL34 => ?_)
      refine f_goto rfl ?_
      rw [show lF (rl0 w f1 f2) = (if rR0 w f1 f2 0 0 = true then 0 else lF (rl1 w f1 f2)) from rfl, bI0 c1, if_neg (by decide)]
      exact hK1 hc25 _ hw25 hm25 (hL34.sel [0, 1, 2] rfl)
    · have c1 : ¬ ((bI (rR0 w f1 f2 0 0) : Int) = (0 : Int)) := c1
      refine f_bipush (n := 10) rfl (by decide) ?_
      refine f_iln 1 rfl hL rfl ?_
      refine f_imul rfl ?_
      refine b_eq (x := 0) (by decide) ?_
      refine f_iln 0 rfl hL rfl ?_
      refine f_iadd rfl ?_
      refine b_eq (x := 0) (by decide) ?_
      exact f_ret1 rfl ⟨by rw [show lF (rl0 w f1 f2) = (if rR0 w f1 f2 0 0 = true then 0 else lF (rl1 w f1 f2)) from rfl, if_pos (bI1 c1)], hw25, hm25⟩
  refine f_s [fi (0)] rfl rfl ?_
  refine f_istn [(1, fi (0)), (0, .ref 53)] rfl (by decide) hL rfl (fun L35 hL35 => ?_)
  refine f_iln 0 rfl hL35 rfl ?_
  refine f_s [fi (5), fi (0)] rfl rfl ?_
  refine f_ic rfl (by decide) (by decide) (fun c_9 => absurd (show (5 : Int) ≤ (0 : Int) from c_9) (by decide)) (fun _ => ?_)
  refine f_s [fi (0)] rfl rfl ?_
  refine f_istn [(2, fi (0)), (1, fi (0)), (0, .ref 53)] rfl (by decide) hL35 rfl (fun L36 hL36 => ?_)
  exact hK0 hc _ hw hm (hL36.sel [0, 1, 2] rfl))
def prB (m : Nat → Nat → Int) (w : Int) (f1 f2 : Bool) : Nat → Nat → Int := (up (up (up m 53 0 (w)) 53 1 (bI f1)) 53 2 (bI f2))
theorem t170 {m : Nat → Nat → Int} {w : Int} (rw_ : -2147483648 ≤ w ∧ w ≤ 2147483647) {f1 f2 : Bool} : h_M 170 [.ref 53, fi (w), fi (bI f1), fi (bI f2)] m none (prB m w f1 f2) := h_M_of (R := ev_r170) rfl (fun hc hw hm => by
  have hL : f_L (lv_args 0 [.ref 53, fi (w), fi (bI f1), fi (bI f2)]) [(0, .ref 53), (1, fi (w)), (2, fi (bI f1)), (3, fi (bI f2))] := f_L_of rfl
  generalize lv_args 0 [.ref 53, fi (w), fi (bI f1), fi (bI f2)] = L at hL
  show x_W none (0, 0, 4, 3, 2, 0, 0, 0, 0, ev_t170) 0 L [] hc 0 0 _
  have hR := gi_R hm
  refine f_aln 0 rfl hL rfl ?_
  refine f_iln 1 rfl hL rfl ?_
  refine m_pf so53 rfl hw hm rfl rfl rw_ (fun hc1 hw1 hm1 => ?_)
  refine f_aln 0 rfl hL rfl ?_
  refine f_iln 2 rfl hL rfl ?_
  refine m_pf so53 rfl hw1 hm1 rfl (by cases f1 <;> cases f2 <;> rfl) (bI_r _) (fun hc2 hw2 hm2 => ?_)
  refine f_aln 0 rfl hL rfl ?_
  refine f_iln 3 rfl hL rfl ?_
  refine m_pf so53 rfl hw2 hm2 rfl (by cases f1 <;> cases f2 <;> rfl) (bI_r _) (fun hc3 hw3 hm3 => ?_)
  exact m_ret0 rfl ⟨rfl, hw3, hm3⟩)
theorem t177_un {m : Nat → Nat → Int} (hn : 0 ≤ m 3 5 ∧ m 3 5 ≤ 4) (hp : 0 ≤ m 3 6 ∧ m 3 6 ≤ 5) {x : Int} (rx : -2147483648 ≤ x ∧ x ≤ 2147483647) {y : Int} (ry : -2147483648 ≤ y ∧ y ≤ 2147483647) {k : Int} (rk : -2147483648 ≤ k ∧ k ≤ 2147483647) {t : Int} (rt : -2147483648 ≤ t ∧ t ≤ 2147483647) (hu : ¬ ((0 ≤ x ∧ x < m 3 6) ∧ (0 ≤ y ∧ y < m 3 6) ∧ (0 ≤ k ∧ k < m 3 5))) : h_M 177 [.ref 0, fi (x), fi (y), fi (k), fi (t)] m (some (fi (-1))) m := h_M_of (R := ev_r177) rfl (fun hc hw hm => by
  have hL : f_L (lv_args 0 [.ref 0, fi (x), fi (y), fi (k), fi (t)]) [(0, .ref 0), (1, fi (x)), (2, fi (y)), (3, fi (k)), (4, fi (t))] := f_L_of rfl
  generalize lv_args 0 [.ref 0, fi (x), fi (y), fi (k), fi (t)] = L at hL
  show x_W none (1, 0, 5, 4, 10, 4, 90, 0, 0, ev_t177) 0 L [] hc 0 0 _
  have hR := gi_R hm
  refine f_aln 0 rfl hL rfl ?_
  refine m_gfr so0 rfl hw rfl (by decide) ?_
  refine f_iln 1 rfl hL rfl ?_
  refine m_k1 (t49 hp.2 rx) hw hm rfl rfl rfl (m_ar so3 hw rfl) rfl (fun hc1 hw1 hm1 => ?_)
  refine f_if rfl (bI_r _) (fun c1 => ?_) (fun c1 => ?_)
  · have c1 : (bI (decide (0 ≤ x ∧ x < m 3 6)) : Int) = (0 : Int) := c1
    have c1 : ¬ (0 ≤ x ∧ x < m 3 6) := bI_f c1
    refine f_s [fi (-1)] rfl rfl ?_
    exact f_ret1 rfl ⟨rfl, hw1, hm1⟩
  · have c1 : ¬ ((bI (decide (0 ≤ x ∧ x < m 3 6)) : Int) = (0 : Int)) := c1
    have c1 : 0 ≤ x ∧ x < m 3 6 := bI_t c1
    refine f_aln 0 rfl hL rfl ?_
    refine m_gfr so0 rfl hw1 rfl (by decide) ?_
    refine f_iln 2 rfl hL rfl ?_
    refine m_k1 (t49 hp.2 ry) hw1 hm1 rfl rfl rfl (m_ar so3 hw1 rfl) rfl (fun hc2 hw2 hm2 => ?_)
    refine f_if rfl (bI_r _) (fun c2 => ?_) (fun c2 => ?_)
    · have c2 : (bI (decide (0 ≤ y ∧ y < m 3 6)) : Int) = (0 : Int) := c2
      have c2 : ¬ (0 ≤ y ∧ y < m 3 6) := bI_f c2
      refine f_s [fi (-1)] rfl rfl ?_
      exact f_ret1 rfl ⟨rfl, hw2, hm2⟩
    · have c2 : ¬ ((bI (decide (0 ≤ y ∧ y < m 3 6)) : Int) = (0 : Int)) := c2
      have c2 : 0 ≤ y ∧ y < m 3 6 := bI_t c2
      refine f_aln 0 rfl hL rfl ?_
      refine m_gfr so0 rfl hw2 rfl (by decide) ?_
      refine f_iln 3 rfl hL rfl ?_
      refine m_k1 (t40 hn.2 rk) hw2 hm2 rfl rfl rfl (m_ar so3 hw2 rfl) rfl (fun hc3 hw3 hm3 => ?_)
      refine f_if rfl (bI_r _) (fun c => absurd ⟨c1, c2, bI_t c⟩ hu) (fun c3 => ?_)
      have c3 : ¬ (¬ (bI (decide (0 ≤ k ∧ k < m 3 5)) : Int) = (0 : Int)) := c3
      have c3 : ¬ (0 ≤ k ∧ k < m 3 5) := bI_n c3
      refine f_s [fi (-1)] rfl rfl ?_
      exact f_ret1 rfl ⟨rfl, hw3, hm3⟩)
theorem t177_out {m : Nat → Nat → Int} (hn : 0 ≤ m 3 5 ∧ m 3 5 ≤ 4) (hp : 0 ≤ m 3 6 ∧ m 3 6 ≤ 5) {x : Int} (rx : -2147483648 ≤ x ∧ x ≤ 2147483647) {y : Int} (ry : -2147483648 ≤ y ∧ y ≤ 2147483647) {k : Int} (rk : -2147483648 ≤ k ∧ k ≤ 2147483647) {t : Int} (rt : -2147483648 ≤ t ∧ t ≤ 2147483647) (hx : 0 ≤ x ∧ x < m 3 6) (hy : 0 ≤ y ∧ y < m 3 6) (hk : 0 ≤ k ∧ k < m 3 5) (hu : ¬ (¬ x = y ∧ 0 ≤ t ∧ t ≤ 1)) : h_M 177 [.ref 0, fi (x), fi (y), fi (k), fi (t)] m (some (fi (-2))) m := h_M_of (R := ev_r177) rfl (fun hc hw hm => by
  have hL : f_L (lv_args 0 [.ref 0, fi (x), fi (y), fi (k), fi (t)]) [(0, .ref 0), (1, fi (x)), (2, fi (y)), (3, fi (k)), (4, fi (t))] := f_L_of rfl
  generalize lv_args 0 [.ref 0, fi (x), fi (y), fi (k), fi (t)] = L at hL
  show x_W none (1, 0, 5, 4, 10, 4, 90, 0, 0, ev_t177) 0 L [] hc 0 0 _
  have hR := gi_R hm
  refine f_aln 0 rfl hL rfl ?_
  refine m_gfr so0 rfl hw rfl (by decide) ?_
  refine f_iln 1 rfl hL rfl ?_
  refine m_k1 (t49 hp.2 rx) hw hm rfl rfl rfl (m_ar so3 hw rfl) rfl (fun hc1 hw1 hm1 => ?_)
  refine f_if rfl (bI_r _) (fun c_9 => absurd (show (bI (decide (0 ≤ x ∧ x < m 3 6)) : Int) = (0 : Int) from c_9) (by rw [decide_eq_true hx]; decide)) (fun _ => ?_)
  refine f_aln 0 rfl hL rfl ?_
  refine m_gfr so0 rfl hw1 rfl (by decide) ?_
  refine f_iln 2 rfl hL rfl ?_
  refine m_k1 (t49 hp.2 ry) hw1 hm1 rfl rfl rfl (m_ar so3 hw1 rfl) rfl (fun hc2 hw2 hm2 => ?_)
  refine f_if rfl (bI_r _) (fun c_9 => absurd (show (bI (decide (0 ≤ y ∧ y < m 3 6)) : Int) = (0 : Int) from c_9) (by rw [decide_eq_true hy]; decide)) (fun _ => ?_)
  refine f_aln 0 rfl hL rfl ?_
  refine m_gfr so0 rfl hw2 rfl (by decide) ?_
  refine f_iln 3 rfl hL rfl ?_
  refine m_k1 (t40 hn.2 rk) hw2 hm2 rfl rfl rfl (m_ar so3 hw2 rfl) rfl (fun hc3 hw3 hm3 => ?_)
  refine f_if rfl (bI_r _) (fun _ => ?_) (fun c_9 => absurd (show ¬ (bI (decide (0 ≤ k ∧ k < m 3 5)) : Int) = (0 : Int) from (by rw [decide_eq_true hk]; decide)) c_9)
  refine f_iln 1 rfl hL rfl ?_
  refine f_iln 2 rfl hL rfl ?_
  refine f_ic rfl rx ry (fun c1 => ?_) (fun c1 => ?_)
  · have c1 : (x : Int) = (y : Int) := c1
    refine f_bipush (n := -2) rfl (by decide) ?_
    exact f_ret1 rfl ⟨rfl, hw3, hm3⟩
  · have c1 : ¬ ((x : Int) = (y : Int)) := c1
    refine f_il 4 rfl hL rfl ?_
    refine f_if rfl rt (fun c2 => ?_) (fun c2 => ?_)
    · have c2 : (t : Int) < (0 : Int) := c2
      refine f_bipush (n := -2) rfl (by decide) ?_
      exact f_ret1 rfl ⟨rfl, hw3, hm3⟩
    · have c2 : ¬ ((t : Int) < (0 : Int)) := c2
      refine f_il 4 rfl hL rfl ?_
      refine f_s [fi (1), fi (t)] rfl rfl ?_
      refine f_ic rfl rt (by decide) (fun c => absurd ⟨c1, Int.not_lt.mp c2, c⟩ hu) (fun c3 => ?_)
      have c3 : ¬ ((t : Int) ≤ (1 : Int)) := c3
      refine f_bipush (n := -2) rfl (by decide) ?_
      exact f_ret1 rfl ⟨rfl, hw3, hm3⟩)
theorem t177_ok {m : Nat → Nat → Int} (hn : 0 ≤ m 3 5 ∧ m 3 5 ≤ 4) (hp : 0 ≤ m 3 6 ∧ m 3 6 ≤ 5) {x : Int} (rx : -2147483648 ≤ x ∧ x ≤ 2147483647) {y : Int} (ry : -2147483648 ≤ y ∧ y ≤ 2147483647) {k : Int} (rk : -2147483648 ≤ k ∧ k ≤ 2147483647) {t : Int} (rt : -2147483648 ≤ t ∧ t ≤ 2147483647) (hx : 0 ≤ x ∧ x < m 3 6) (hy : 0 ≤ y ∧ y < m 3 6) (hk : 0 ≤ k ∧ k < m 3 5) (hu : ¬ x = y ∧ 0 ≤ t ∧ t ≤ 1) (hwv : 0 ≤ wo m k ∧ wo m k ≤ 9) : h_M 177 [.ref 0, fi (x), fi (y), fi (k), fi (t)] m (some (fi (if t = 0 then lC (rl0 (wo m k) (decide ((0 ≤ k ∧ k < m 3 5) ∧ ¬ ((0 ≤ x ∧ x < m 3 6) ∧ iA (iR (m 9 5) (x)) (1) = 1) ∧ iA (iR (ft m x) (k)) (1) = 1)) (decide ((0 ≤ k ∧ k < m 3 5) ∧ ¬ ((0 ≤ y ∧ y < m 3 6) ∧ iA (iR (m 9 5) (y)) (1) = 1) ∧ iA (iR (ft m y) (k)) (1) = 1))) 0 else lF (rl0 (wo m k) (decide ((0 ≤ k ∧ k < m 3 5) ∧ ¬ ((0 ≤ x ∧ x < m 3 6) ∧ iA (iR (m 9 5) (x)) (1) = 1) ∧ iA (iR (ft m x) (k)) (1) = 1)) (decide ((0 ≤ k ∧ k < m 3 5) ∧ ¬ ((0 ≤ y ∧ y < m 3 6) ∧ iA (iR (m 9 5) (y)) (1) = 1) ∧ iA (iR (ft m y) (k)) (1) = 1)))))) (prB m (wo m k) (decide ((0 ≤ k ∧ k < m 3 5) ∧ ¬ ((0 ≤ x ∧ x < m 3 6) ∧ iA (iR (m 9 5) (x)) (1) = 1) ∧ iA (iR (ft m x) (k)) (1) = 1)) (decide ((0 ≤ k ∧ k < m 3 5) ∧ ¬ ((0 ≤ y ∧ y < m 3 6) ∧ iA (iR (m 9 5) (y)) (1) = 1) ∧ iA (iR (ft m y) (k)) (1) = 1))) := h_M_of (R := ev_r177) rfl (fun hc hw hm => by
  have hL : f_L (lv_args 0 [.ref 0, fi (x), fi (y), fi (k), fi (t)]) [(0, .ref 0), (1, fi (x)), (2, fi (y)), (3, fi (k)), (4, fi (t))] := f_L_of rfl
  generalize lv_args 0 [.ref 0, fi (x), fi (y), fi (k), fi (t)] = L at hL
  show x_W none (1, 0, 5, 4, 10, 4, 90, 0, 0, ev_t177) 0 L [] hc 0 0 _
  have hR := gi_R hm
  refine f_aln 0 rfl hL rfl ?_
  refine m_gfr so0 rfl hw rfl (by decide) ?_
  refine f_iln 1 rfl hL rfl ?_
  refine m_k1 (t49 hp.2 rx) hw hm rfl rfl rfl (m_ar so3 hw rfl) rfl (fun hc1 hw1 hm1 => ?_)
  refine f_if rfl (bI_r _) (fun c_9 => absurd (show (bI (decide (0 ≤ x ∧ x < m 3 6)) : Int) = (0 : Int) from c_9) (by rw [decide_eq_true hx]; decide)) (fun _ => ?_)
  refine f_aln 0 rfl hL rfl ?_
  refine m_gfr so0 rfl hw1 rfl (by decide) ?_
  refine f_iln 2 rfl hL rfl ?_
  refine m_k1 (t49 hp.2 ry) hw1 hm1 rfl rfl rfl (m_ar so3 hw1 rfl) rfl (fun hc2 hw2 hm2 => ?_)
  refine f_if rfl (bI_r _) (fun c_9 => absurd (show (bI (decide (0 ≤ y ∧ y < m 3 6)) : Int) = (0 : Int) from c_9) (by rw [decide_eq_true hy]; decide)) (fun _ => ?_)
  refine f_aln 0 rfl hL rfl ?_
  refine m_gfr so0 rfl hw2 rfl (by decide) ?_
  refine f_iln 3 rfl hL rfl ?_
  refine m_k1 (t40 hn.2 rk) hw2 hm2 rfl rfl rfl (m_ar so3 hw2 rfl) rfl (fun hc3 hw3 hm3 => ?_)
  refine f_if rfl (bI_r _) (fun _ => ?_) (fun c_9 => absurd (show ¬ (bI (decide (0 ≤ k ∧ k < m 3 5)) : Int) = (0 : Int) from (by rw [decide_eq_true hk]; decide)) c_9)
  refine f_iln 1 rfl hL rfl ?_
  refine f_iln 2 rfl hL rfl ?_
  refine f_ic rfl rx ry (fun c_9 => absurd (show (x : Int) = (y : Int) from c_9) (fun z => hu.1 z)) (fun _ => ?_)
  refine f_il 4 rfl hL rfl ?_
  refine f_if rfl rt (fun c_9 => absurd (show (t : Int) < (0 : Int) from c_9) (by omega)) (fun _ => ?_)
  refine f_il 4 rfl hL rfl ?_
  refine f_s [fi (1), fi (t)] rfl rfl ?_
  refine f_ic rfl rt (by decide) (fun _ => ?_) (fun c_9 => absurd (show (t : Int) ≤ (1 : Int) from (by omega)) c_9)
  refine f_aln 0 rfl hL rfl ?_
  refine m_gfr so0 rfl hw3 rfl (by decide) ?_
  refine f_aln 0 rfl hL rfl ?_
  refine m_gfr so0 rfl hw3 rfl (by decide) ?_
  refine f_iln 3 rfl hL rfl ?_
  refine m_k1 (t42 hn rk) hw3 hm3 rfl rfl rfl (m_ar so3 hw3 rfl) rfl (fun hc4 hw4 hm4 => ?_)
  refine f_aln 0 rfl hL rfl ?_
  refine m_gfr so0 rfl hw4 rfl (by decide) ?_
  refine f_iln 1 rfl hL rfl ?_
  refine f_iln 3 rfl hL rfl ?_
  refine m_k1 (t64_9 hn hp rx rk) hw4 hm4 rfl rfl rfl (m_ar so9 hw4 rfl) rfl (fun hc5 hw5 hm5 => ?_)
  refine f_aln 0 rfl hL rfl ?_
  refine m_gfr so0 rfl hw5 rfl (by decide) ?_
  refine f_iln 2 rfl hL rfl ?_
  refine f_iln 3 rfl hL rfl ?_
  refine m_k1 (t64_9 hn hp ry rk) hw5 hm5 rfl rfl rfl (m_ar so9 hw5 rfl) rfl (fun hc6 hw6 hm6 => ?_)
  refine m_k0 (t170 (w := wo m k) (f1 := decide ((0 ≤ k ∧ k < m 3 5) ∧ ¬ ((0 ≤ x ∧ x < m 3 6) ∧ iA (iR (m 9 5) (x)) (1) = 1) ∧ iA (iR (ft m x) (k)) (1) = 1)) (f2 := decide ((0 ≤ k ∧ k < m 3 5) ∧ ¬ ((0 ≤ y ∧ y < m 3 6) ∧ iA (iR (m 9 5) (y)) (1) = 1) ∧ iA (iR (ft m y) (k)) (1) = 1)) (by omega)) hw6 hm6 rfl rfl rfl (m_ar so53 hw6 rfl) rfl (fun hc7 hw7 hm7 => ?_)
  refine f_il 4 rfl hL rfl ?_
  refine f_if rfl rt (fun c9 => ?_) (fun c9 => ?_)
  · have c9 : ¬ (t : Int) = (0 : Int) := c9
    refine f_aln 0 rfl hL rfl ?_
    refine m_gfr so0 rfl hw7 rfl (by decide) ?_
    refine m_k1 (t176 (m := (prB m (wo m k) (decide ((0 ≤ k ∧ k < m 3 5) ∧ ¬ ((0 ≤ x ∧ x < m 3 6) ∧ iA (iR (m 9 5) (x)) (1) = 1) ∧ iA (iR (ft m x) (k)) (1) = 1)) (decide ((0 ≤ k ∧ k < m 3 5) ∧ ¬ ((0 ≤ y ∧ y < m 3 6) ∧ iA (iR (m 9 5) (y)) (1) = 1) ∧ iA (iR (ft m y) (k)) (1) = 1)))) hwv rfl rfl rfl) hw7 hm7 rfl rfl rfl (m_ar so53 hw7 rfl) rfl (fun hc8 hw8 hm8 => ?_)
    exact f_ret1 rfl ⟨by rw [if_neg c9], hw8, hm8⟩
  · have c9 : ¬ (¬ (t : Int) = (0 : Int)) := c9
    refine f_aln 0 rfl hL rfl ?_
    refine m_gfr so0 rfl hw7 rfl (by decide) ?_
    refine m_k1 (t175 (m := (prB m (wo m k) (decide ((0 ≤ k ∧ k < m 3 5) ∧ ¬ ((0 ≤ x ∧ x < m 3 6) ∧ iA (iR (m 9 5) (x)) (1) = 1) ∧ iA (iR (ft m x) (k)) (1) = 1)) (decide ((0 ≤ k ∧ k < m 3 5) ∧ ¬ ((0 ≤ y ∧ y < m 3 6) ∧ iA (iR (m 9 5) (y)) (1) = 1) ∧ iA (iR (ft m y) (k)) (1) = 1)))) hwv rfl rfl rfl) hw7 hm7 rfl rfl rfl (m_ar so53 hw7 rfl) rfl (fun hc9 hw9 hm9 => ?_)
    refine f_goto rfl ?_
    exact f_ret1 rfl ⟨by rw [if_pos (by omega)], hw9, hm9⟩)
theorem t178 {m : Nat → Nat → Int} {x : Int} (x1 : 0 ≤ x ∧ x < 5) {k : Int} (k1 : 0 ≤ k ∧ k < 4) : h_M 178 [.ref 55, fi (x), fi (k)] m (some (fi (bI (decide (¬ iA (iR (m 61 16) (x)) (1) = 1 ∧ iA (iR (m 60 (x).toNat) (k)) (1) = 1))))) m := h_M_of (R := ev_r178) rfl (fun hc hw hm => by
  have hL : f_L (lv_args 0 [.ref 55, fi (x), fi (k)]) [(0, .ref 55), (1, fi (x)), (2, fi (k))] := f_L_of rfl
  generalize lv_args 0 [.ref 55, fi (x), fi (k)] = L at hL
  show x_W none (2, 0, 3, 2, 11, 2, 43, 0, 0, ev_t178) 0 L [] hc 0 0 _
  have hR := gi_R hm
  refine f_aln 0 rfl hL rfl ?_
  refine f_s [fi (0), .ref 55] rfl rfl ?_
  refine f_iln 1 rfl hL rfl ?_
  refine m_k1 (t74_0 (by omega)) hw hm rfl rfl rfl (m_ar so55 hw rfl) rfl (fun hc1 hw1 hm1 => ?_)
  refine f_if rfl (bI_r _) (fun c1 => ?_) (fun c1 => ?_)
  · have c1 : ¬ (bI (decide (iA (iR (m 61 16) (x)) (1) = 1)) : Int) = (0 : Int) := c1
    have c1 : iA (iR (m 61 16) (x)) (1) = 1 := bI_t c1
    refine f_s [fi (0)] rfl rfl ?_
    exact f_ret2 rfl (Or.inl rfl) ⟨by rw [decide_eq_false (by omega)]; rfl, hw1, hm1⟩
  · have c1 : ¬ (¬ (bI (decide (iA (iR (m 61 16) (x)) (1) = 1)) : Int) = (0 : Int)) := c1
    have c1 : ¬ (iA (iR (m 61 16) (x)) (1) = 1) := bI_n c1
    refine f_aln 0 rfl hL rfl ?_
    refine m_gfr so55 rfl hw1 rfl (by decide) ?_
    refine f_iln 1 rfl hL rfl ?_
    refine m_ia sa60 (m 60 (x).toNat) rfl hw1 hm1 (by omega) (by omega) (by decide) rfl ?_
    refine f_iln 2 rfl hL rfl ?_
    refine m_k1 (t73 (hR 60 _) (by omega)) hw1 hm1 rfl rfl rfl rfl rfl (fun hc2 hw2 hm2 => ?_)
    refine f_if rfl (bI_r _) (fun c2 => ?_) (fun c2 => ?_)
    · have c2 : (bI (decide (iA (iR (m 60 (x).toNat) (k)) (1) = 1)) : Int) = (0 : Int) := c2
      have c2 : ¬ (iA (iR (m 60 (x).toNat) (k)) (1) = 1) := bI_f c2
      refine f_s [fi (0)] rfl rfl ?_
      exact f_ret2 rfl (Or.inl rfl) ⟨by rw [decide_eq_false (by omega)]; rfl, hw2, hm2⟩
    · have c2 : ¬ ((bI (decide (iA (iR (m 60 (x).toNat) (k)) (1) = 1)) : Int) = (0 : Int)) := c2
      have c2 : iA (iR (m 60 (x).toNat) (k)) (1) = 1 := bI_t c2
      refine f_s [fi (1)] rfl rfl ?_
      refine f_goto rfl ?_
      exact f_ret2 rfl (Or.inr rfl) ⟨by rw [decide_eq_true (by omega)]; rfl, hw2, hm2⟩)
theorem t179_111 {m : Nat → Nat → Int} {a : Int} (ra : 0 ≤ a ∧ a ≤ 4) {b : Int} (rb : 0 ≤ b ∧ b ≤ 4) {x y k : Int} (x1 : 0 ≤ x ∧ x < 5) (y1 : 0 ≤ y ∧ y < 5) (k1 : 0 ≤ k ∧ k < 4) {w : Int} (hwv : 0 ≤ w ∧ w ≤ 9) (h0 : m 57 (k).toNat = w) (h1 : decide (¬ iA (iR (m 61 16) (x)) (1) = 1 ∧ iA (iR (m 60 (x).toNat) (k)) (1) = 1) = true) (h2 : decide (¬ iA (iR (m 61 16) (y)) (1) = 1 ∧ iA (iR (m 60 (y).toNat) (k)) (1) = 1) = true) : h_M 179 [.ref 55, fi (x), fi (y), fi (k), fi (a), fi (b), fi (1)] m (some (fi (g1 w true true a b))) m := h_M_of (R := ev_r179) rfl (fun hc hw hm => by
  have hL : f_L (lv_args 0 [.ref 55, fi (x), fi (y), fi (k), fi (a), fi (b), fi (1)]) [(0, .ref 55), (1, fi (x)), (2, fi (y)), (3, fi (k)), (4, fi (a)), (5, fi (b)), (6, fi (1))] := f_L_of rfl
  generalize lv_args 0 [.ref 55, fi (x), fi (y), fi (k), fi (a), fi (b), fi (1)] = L at hL
  show x_W none (1, 0, 11, 6, 11, 3, 65, 0, 0, ev_t179) 0 L [] hc 0 0 _
  have hR := gi_R hm
  refine f_il 4 rfl hL rfl ?_
  refine f_il 5 rfl hL rfl ?_
  refine f_ic rfl (by omega) (by omega) (fun c0 => ?_) (fun c0 => ?_)
  · have c0 : (a : Int) < (b : Int) := c0
    refine f_aln 0 rfl hL rfl ?_
    refine f_iln 1 rfl hL rfl ?_
    refine f_iln 3 rfl hL rfl ?_
    refine m_k1 (show h_M 178 [.ref 55, fi (x), fi (k)] m (some (fi (1))) m from by have z := t178 (m := m) x1 k1; rw [h1] at z; exact z) hw hm rfl rfl rfl (m_ar so55 hw rfl) rfl (fun hc1 hw1 hm1 => ?_)
    refine f_if rfl (by decide) (fun c_9 => absurd (show (1 : Int) = (0 : Int) from c_9) (by decide)) (fun _ => ?_)
    refine f_aln 0 rfl hL rfl ?_
    refine f_iln 2 rfl hL rfl ?_
    refine f_iln 3 rfl hL rfl ?_
    refine m_k1 (show h_M 178 [.ref 55, fi (y), fi (k)] m (some (fi (1))) m from by have z := t178 (m := m) y1 k1; rw [h2] at z; exact z) hw1 hm1 rfl rfl rfl (m_ar so55 hw1 rfl) rfl (fun hc2 hw2 hm2 => ?_)
    refine f_if rfl (by decide) (fun _ => ?_) (fun c_9 => absurd (show ¬ (1 : Int) = (0 : Int) from (by decide)) c_9)
    refine f_s [fi (0)] rfl rfl ?_
    refine f_ist [(7, fi (0)), (0, .ref 55), (1, fi (x)), (2, fi (y)), (3, fi (k)), (4, fi (a)), (5, fi (b)), (6, fi (1))] rfl (by decide) hL rfl (fun L1 hL1 => ?_)
    refine f_il 0 rfl hL1 rfl ?_
    refine f_if rfl (by decide) (fun c_9 => absurd (show ¬ (0 : Int) = (0 : Int) from c_9) (by decide)) (fun _ => ?_)
    refine f_aln 1 rfl hL1 rfl ?_
    refine f_iln 3 rfl hL1 rfl ?_
    refine f_iln 4 rfl hL1 rfl ?_
    refine m_k1 (show h_M 178 [.ref 55, fi (y), fi (k)] m (some (fi (1))) m from by have z := t178 (m := m) y1 k1; rw [h2] at z; exact z) hw2 hm2 rfl rfl rfl (m_ar so55 hw2 rfl) rfl (fun hc3 hw3 hm3 => ?_)
    refine f_if rfl (by decide) (fun c_9 => absurd (show (1 : Int) = (0 : Int) from c_9) (by decide)) (fun _ => ?_)
    refine f_s [fi (1)] rfl rfl ?_
    refine f_goto rfl ?_
    refine f_ist [(8, fi (1)), (7, fi (0)), (0, .ref 55), (1, fi (x)), (2, fi (y)), (3, fi (k)), (4, fi (a)), (5, fi (b)), (6, fi (1))] rfl (by decide) hL1 rfl (fun L2 hL2 => ?_)
    refine f_il 8 rfl hL2 rfl ?_
    refine f_if rfl (by decide) (fun c_9 => absurd (show (1 : Int) = (0 : Int) from c_9) (by decide)) (fun _ => ?_)
    refine f_il 1 rfl hL2 rfl ?_
    refine f_goto rfl ?_
    refine f_ist [(9, fi (0)), (8, fi (1)), (7, fi (0)), (0, .ref 55), (1, fi (x)), (2, fi (y)), (3, fi (k)), (4, fi (a)), (5, fi (b)), (6, fi (1))] rfl (by decide) hL2 rfl (fun L3 hL3 => ?_)
    refine f_il 9 rfl hL3 rfl ?_
    refine f_if rfl (by decide) (fun c_9 => absurd (show (1 : Int) = (0 : Int) from c_9) (by decide)) (fun _ => ?_)
    refine f_il 7 rfl hL3 rfl ?_
    refine f_goto rfl ?_
    refine f_ist [(10, fi (a)), (9, fi (0)), (8, fi (1)), (7, fi (0)), (0, .ref 55), (1, fi (x)), (2, fi (y)), (3, fi (k)), (4, fi (a)), (5, fi (b)), (6, fi (1))] rfl (by decide) hL3 rfl (fun L4 hL4 => ?_)
    refine f_il 1 rfl hL4 rfl ?_
    refine f_if rfl (by decide) (fun _ => ?_) (fun c_9 => absurd (show (0 : Int) = (0 : Int) from (by decide)) c_9)
    refine f_il 0 rfl hL4 rfl ?_
    refine f_if rfl (by omega) (fun c9 => ?_) (fun c9 => ?_)
    · have c9 : (a : Int) ≤ (0 : Int) := c9
      refine f_s [fi (0)] rfl rfl ?_
      exact f_ret1 rfl ⟨by rw [show g1 w true true a b = 0 from gB_z (show (true && (decide (b ≤ a) || !true)) = false by rw [decide_eq_false (by omega)] <;> rfl) (by omega)], hw3, hm3⟩
    · have c9 : ¬ ((a : Int) ≤ (0 : Int)) := c9
      refine f_s [fi (-1)] rfl rfl ?_
      refine f_goto rfl ?_
      exact f_ret1 rfl ⟨by rw [show g1 w true true a b = -1 from gB_p (show (true && (decide (b ≤ a) || !true)) = false by rw [decide_eq_false (by omega)] <;> rfl) (by omega)], hw3, hm3⟩
  · have c0 : ¬ ((a : Int) < (b : Int)) := c0
    refine f_aln 0 rfl hL rfl ?_
    refine f_iln 1 rfl hL rfl ?_
    refine f_iln 3 rfl hL rfl ?_
    refine m_k1 (show h_M 178 [.ref 55, fi (x), fi (k)] m (some (fi (1))) m from by have z := t178 (m := m) x1 k1; rw [h1] at z; exact z) hw hm rfl rfl rfl (m_ar so55 hw rfl) rfl (fun hc4 hw4 hm4 => ?_)
    refine f_goto rfl ?_
    refine f_ist [(7, fi (1)), (0, .ref 55), (1, fi (x)), (2, fi (y)), (3, fi (k)), (4, fi (a)), (5, fi (b)), (6, fi (1))] rfl (by decide) hL rfl (fun L5 hL5 => ?_)
    refine f_il 0 rfl hL5 rfl ?_
    refine f_if rfl (by decide) (fun _ => ?_) (fun c_9 => absurd (show ¬ (1 : Int) = (0 : Int) from (by decide)) c_9)
    refine f_s [fi (0)] rfl rfl ?_
    refine f_ist [(8, fi (0)), (7, fi (1)), (0, .ref 55), (1, fi (x)), (2, fi (y)), (3, fi (k)), (4, fi (a)), (5, fi (b)), (6, fi (1))] rfl (by decide) hL5 rfl (fun L6 hL6 => ?_)
    refine f_il 8 rfl hL6 rfl ?_
    refine f_if rfl (by decide) (fun c_9 => absurd (show (1 : Int) = (0 : Int) from c_9) (by decide)) (fun _ => ?_)
    refine f_il 1 rfl hL6 rfl ?_
    refine f_goto rfl ?_
    refine f_ist [(9, fi (1)), (8, fi (0)), (7, fi (1)), (0, .ref 55), (1, fi (x)), (2, fi (y)), (3, fi (k)), (4, fi (a)), (5, fi (b)), (6, fi (1))] rfl (by decide) hL6 rfl (fun L7 hL7 => ?_)
    refine f_il 9 rfl hL7 rfl ?_
    refine f_if rfl (by decide) (fun c_9 => absurd (show (1 : Int) = (0 : Int) from c_9) (by decide)) (fun _ => ?_)
    refine f_il 7 rfl hL7 rfl ?_
    refine f_goto rfl ?_
    refine f_ist [(10, fi (a)), (9, fi (1)), (8, fi (0)), (7, fi (1)), (0, .ref 55), (1, fi (x)), (2, fi (y)), (3, fi (k)), (4, fi (a)), (5, fi (b)), (6, fi (1))] rfl (by decide) hL7 rfl (fun L8 hL8 => ?_)
    refine f_il 1 rfl hL8 rfl ?_
    refine f_if rfl (by decide) (fun c_9 => absurd (show (1 : Int) = (0 : Int) from c_9) (by decide)) (fun _ => ?_)
    refine f_aln 4 rfl hL8 rfl ?_
    refine m_gfr so55 rfl hw4 rfl (by decide) ?_
    refine f_iln 7 rfl hL8 rfl ?_
    refine m_ia sa57 (w) rfl hw4 hm4 (by omega) (by omega) (by decide) h0 ?_
    refine f_il 0 rfl hL8 rfl ?_
    refine f_isub rfl ?_
    refine f_goto rfl ?_
    exact f_ret1 rfl ⟨by rw [show g1 w true true a b = w - a from gB_t (show (true && (decide (b ≤ a) || !true)) = true by rw [decide_eq_true (by omega)] <;> rfl)], hw4, hm4⟩)
theorem t179_110 {m : Nat → Nat → Int} {a : Int} (ra : 0 ≤ a ∧ a ≤ 4) {b : Int} (rb : 0 ≤ b ∧ b ≤ 4) {x y k : Int} (x1 : 0 ≤ x ∧ x < 5) (y1 : 0 ≤ y ∧ y < 5) (k1 : 0 ≤ k ∧ k < 4) {w : Int} (hwv : 0 ≤ w ∧ w ≤ 9) (h0 : m 57 (k).toNat = w) (h1 : decide (¬ iA (iR (m 61 16) (x)) (1) = 1 ∧ iA (iR (m 60 (x).toNat) (k)) (1) = 1) = true) (h2 : decide (¬ iA (iR (m 61 16) (y)) (1) = 1 ∧ iA (iR (m 60 (y).toNat) (k)) (1) = 1) = false) : h_M 179 [.ref 55, fi (x), fi (y), fi (k), fi (a), fi (b), fi (1)] m (some (fi (g1 w true false a b))) m := h_M_of (R := ev_r179) rfl (fun hc hw hm => by
  have hL : f_L (lv_args 0 [.ref 55, fi (x), fi (y), fi (k), fi (a), fi (b), fi (1)]) [(0, .ref 55), (1, fi (x)), (2, fi (y)), (3, fi (k)), (4, fi (a)), (5, fi (b)), (6, fi (1))] := f_L_of rfl
  generalize lv_args 0 [.ref 55, fi (x), fi (y), fi (k), fi (a), fi (b), fi (1)] = L at hL
  show x_W none (1, 0, 11, 6, 11, 3, 65, 0, 0, ev_t179) 0 L [] hc 0 0 _
  have hR := gi_R hm
  refine f_il 4 rfl hL rfl ?_
  refine f_il 5 rfl hL rfl ?_
  refine f_ic rfl (by omega) (by omega) (fun c0 => ?_) (fun c0 => ?_)
  · have c0 : (a : Int) < (b : Int) := c0
    refine f_aln 0 rfl hL rfl ?_
    refine f_iln 1 rfl hL rfl ?_
    refine f_iln 3 rfl hL rfl ?_
    refine m_k1 (show h_M 178 [.ref 55, fi (x), fi (k)] m (some (fi (1))) m from by have z := t178 (m := m) x1 k1; rw [h1] at z; exact z) hw hm rfl rfl rfl (m_ar so55 hw rfl) rfl (fun hc1 hw1 hm1 => ?_)
    refine f_if rfl (by decide) (fun c_9 => absurd (show (1 : Int) = (0 : Int) from c_9) (by decide)) (fun _ => ?_)
    refine f_aln 0 rfl hL rfl ?_
    refine f_iln 2 rfl hL rfl ?_
    refine f_iln 3 rfl hL rfl ?_
    refine m_k1 (show h_M 178 [.ref 55, fi (y), fi (k)] m (some (fi (0))) m from by have z := t178 (m := m) y1 k1; rw [h2] at z; exact z) hw1 hm1 rfl rfl rfl (m_ar so55 hw1 rfl) rfl (fun hc2 hw2 hm2 => ?_)
    refine f_if rfl (by decide) (fun c_9 => absurd (show ¬ (0 : Int) = (0 : Int) from c_9) (by decide)) (fun _ => ?_)
    refine f_s [fi (1)] rfl rfl ?_
    refine f_goto rfl ?_
    refine f_ist [(7, fi (1)), (0, .ref 55), (1, fi (x)), (2, fi (y)), (3, fi (k)), (4, fi (a)), (5, fi (b)), (6, fi (1))] rfl (by decide) hL rfl (fun L1 hL1 => ?_)
    refine f_il 0 rfl hL1 rfl ?_
    refine f_if rfl (by decide) (fun _ => ?_) (fun c_9 => absurd (show ¬ (1 : Int) = (0 : Int) from (by decide)) c_9)
    refine f_s [fi (0)] rfl rfl ?_
    refine f_ist [(8, fi (0)), (7, fi (1)), (0, .ref 55), (1, fi (x)), (2, fi (y)), (3, fi (k)), (4, fi (a)), (5, fi (b)), (6, fi (1))] rfl (by decide) hL1 rfl (fun L2 hL2 => ?_)
    refine f_il 8 rfl hL2 rfl ?_
    refine f_if rfl (by decide) (fun c_9 => absurd (show (1 : Int) = (0 : Int) from c_9) (by decide)) (fun _ => ?_)
    refine f_il 1 rfl hL2 rfl ?_
    refine f_goto rfl ?_
    refine f_ist [(9, fi (1)), (8, fi (0)), (7, fi (1)), (0, .ref 55), (1, fi (x)), (2, fi (y)), (3, fi (k)), (4, fi (a)), (5, fi (b)), (6, fi (1))] rfl (by decide) hL2 rfl (fun L3 hL3 => ?_)
    refine f_il 9 rfl hL3 rfl ?_
    refine f_if rfl (by decide) (fun c_9 => absurd (show (1 : Int) = (0 : Int) from c_9) (by decide)) (fun _ => ?_)
    refine f_il 7 rfl hL3 rfl ?_
    refine f_goto rfl ?_
    refine f_ist [(10, fi (a)), (9, fi (1)), (8, fi (0)), (7, fi (1)), (0, .ref 55), (1, fi (x)), (2, fi (y)), (3, fi (k)), (4, fi (a)), (5, fi (b)), (6, fi (1))] rfl (by decide) hL3 rfl (fun L4 hL4 => ?_)
    refine f_il 1 rfl hL4 rfl ?_
    refine f_if rfl (by decide) (fun c_9 => absurd (show (1 : Int) = (0 : Int) from c_9) (by decide)) (fun _ => ?_)
    refine f_aln 4 rfl hL4 rfl ?_
    refine m_gfr so55 rfl hw2 rfl (by decide) ?_
    refine f_iln 7 rfl hL4 rfl ?_
    refine m_ia sa57 (w) rfl hw2 hm2 (by omega) (by omega) (by decide) h0 ?_
    refine f_il 0 rfl hL4 rfl ?_
    refine f_isub rfl ?_
    refine f_goto rfl ?_
    exact f_ret1 rfl ⟨by rw [show g1 w true false a b = w - a from gB_t (show (true && (decide (b ≤ a) || !false)) = true by rw [decide_eq_false (by omega)] <;> rfl)], hw2, hm2⟩
  · have c0 : ¬ ((a : Int) < (b : Int)) := c0
    refine f_aln 0 rfl hL rfl ?_
    refine f_iln 1 rfl hL rfl ?_
    refine f_iln 3 rfl hL rfl ?_
    refine m_k1 (show h_M 178 [.ref 55, fi (x), fi (k)] m (some (fi (1))) m from by have z := t178 (m := m) x1 k1; rw [h1] at z; exact z) hw hm rfl rfl rfl (m_ar so55 hw rfl) rfl (fun hc3 hw3 hm3 => ?_)
    refine f_goto rfl ?_
    refine f_ist [(7, fi (1)), (0, .ref 55), (1, fi (x)), (2, fi (y)), (3, fi (k)), (4, fi (a)), (5, fi (b)), (6, fi (1))] rfl (by decide) hL rfl (fun L5 hL5 => ?_)
    refine f_il 0 rfl hL5 rfl ?_
    refine f_if rfl (by decide) (fun _ => ?_) (fun c_9 => absurd (show ¬ (1 : Int) = (0 : Int) from (by decide)) c_9)
    refine f_s [fi (0)] rfl rfl ?_
    refine f_ist [(8, fi (0)), (7, fi (1)), (0, .ref 55), (1, fi (x)), (2, fi (y)), (3, fi (k)), (4, fi (a)), (5, fi (b)), (6, fi (1))] rfl (by decide) hL5 rfl (fun L6 hL6 => ?_)
    refine f_il 8 rfl hL6 rfl ?_
    refine f_if rfl (by decide) (fun c_9 => absurd (show (1 : Int) = (0 : Int) from c_9) (by decide)) (fun _ => ?_)
    refine f_il 1 rfl hL6 rfl ?_
    refine f_goto rfl ?_
    refine f_ist [(9, fi (1)), (8, fi (0)), (7, fi (1)), (0, .ref 55), (1, fi (x)), (2, fi (y)), (3, fi (k)), (4, fi (a)), (5, fi (b)), (6, fi (1))] rfl (by decide) hL6 rfl (fun L7 hL7 => ?_)
    refine f_il 9 rfl hL7 rfl ?_
    refine f_if rfl (by decide) (fun c_9 => absurd (show (1 : Int) = (0 : Int) from c_9) (by decide)) (fun _ => ?_)
    refine f_il 7 rfl hL7 rfl ?_
    refine f_goto rfl ?_
    refine f_ist [(10, fi (a)), (9, fi (1)), (8, fi (0)), (7, fi (1)), (0, .ref 55), (1, fi (x)), (2, fi (y)), (3, fi (k)), (4, fi (a)), (5, fi (b)), (6, fi (1))] rfl (by decide) hL7 rfl (fun L8 hL8 => ?_)
    refine f_il 1 rfl hL8 rfl ?_
    refine f_if rfl (by decide) (fun c_9 => absurd (show (1 : Int) = (0 : Int) from c_9) (by decide)) (fun _ => ?_)
    refine f_aln 4 rfl hL8 rfl ?_
    refine m_gfr so55 rfl hw3 rfl (by decide) ?_
    refine f_iln 7 rfl hL8 rfl ?_
    refine m_ia sa57 (w) rfl hw3 hm3 (by omega) (by omega) (by decide) h0 ?_
    refine f_il 0 rfl hL8 rfl ?_
    refine f_isub rfl ?_
    refine f_goto rfl ?_
    exact f_ret1 rfl ⟨by rw [show g1 w true false a b = w - a from gB_t (show (true && (decide (b ≤ a) || !false)) = true by rw [decide_eq_true (by omega)] <;> rfl)], hw3, hm3⟩)
theorem t179_101 {m : Nat → Nat → Int} {a : Int} (ra : 0 ≤ a ∧ a ≤ 4) {b : Int} (rb : 0 ≤ b ∧ b ≤ 4) {x y k : Int} (x1 : 0 ≤ x ∧ x < 5) (y1 : 0 ≤ y ∧ y < 5) (k1 : 0 ≤ k ∧ k < 4) {w : Int} (hwv : 0 ≤ w ∧ w ≤ 9) (h0 : m 57 (k).toNat = w) (h1 : decide (¬ iA (iR (m 61 16) (x)) (1) = 1 ∧ iA (iR (m 60 (x).toNat) (k)) (1) = 1) = false) (h2 : decide (¬ iA (iR (m 61 16) (y)) (1) = 1 ∧ iA (iR (m 60 (y).toNat) (k)) (1) = 1) = true) : h_M 179 [.ref 55, fi (x), fi (y), fi (k), fi (a), fi (b), fi (1)] m (some (fi (g1 w false true a b))) m := h_M_of (R := ev_r179) rfl (fun hc hw hm => by
  have hL : f_L (lv_args 0 [.ref 55, fi (x), fi (y), fi (k), fi (a), fi (b), fi (1)]) [(0, .ref 55), (1, fi (x)), (2, fi (y)), (3, fi (k)), (4, fi (a)), (5, fi (b)), (6, fi (1))] := f_L_of rfl
  generalize lv_args 0 [.ref 55, fi (x), fi (y), fi (k), fi (a), fi (b), fi (1)] = L at hL
  show x_W none (1, 0, 11, 6, 11, 3, 65, 0, 0, ev_t179) 0 L [] hc 0 0 _
  have hR := gi_R hm
  refine f_il 4 rfl hL rfl ?_
  refine f_il 5 rfl hL rfl ?_
  refine f_ic rfl (by omega) (by omega) (fun c0 => ?_) (fun c0 => ?_)
  · have c0 : (a : Int) < (b : Int) := c0
    refine f_aln 0 rfl hL rfl ?_
    refine f_iln 1 rfl hL rfl ?_
    refine f_iln 3 rfl hL rfl ?_
    refine m_k1 (show h_M 178 [.ref 55, fi (x), fi (k)] m (some (fi (0))) m from by have z := t178 (m := m) x1 k1; rw [h1] at z; exact z) hw hm rfl rfl rfl (m_ar so55 hw rfl) rfl (fun hc1 hw1 hm1 => ?_)
    refine f_if rfl (by decide) (fun _ => ?_) (fun c_9 => absurd (show (0 : Int) = (0 : Int) from (by decide)) c_9)
    refine f_s [fi (0)] rfl rfl ?_
    refine f_ist [(7, fi (0)), (0, .ref 55), (1, fi (x)), (2, fi (y)), (3, fi (k)), (4, fi (a)), (5, fi (b)), (6, fi (1))] rfl (by decide) hL rfl (fun L1 hL1 => ?_)
    refine f_il 0 rfl hL1 rfl ?_
    refine f_if rfl (by decide) (fun c_9 => absurd (show ¬ (0 : Int) = (0 : Int) from c_9) (by decide)) (fun _ => ?_)
    refine f_aln 1 rfl hL1 rfl ?_
    refine f_iln 3 rfl hL1 rfl ?_
    refine f_iln 4 rfl hL1 rfl ?_
    refine m_k1 (show h_M 178 [.ref 55, fi (y), fi (k)] m (some (fi (1))) m from by have z := t178 (m := m) y1 k1; rw [h2] at z; exact z) hw1 hm1 rfl rfl rfl (m_ar so55 hw1 rfl) rfl (fun hc2 hw2 hm2 => ?_)
    refine f_if rfl (by decide) (fun c_9 => absurd (show (1 : Int) = (0 : Int) from c_9) (by decide)) (fun _ => ?_)
    refine f_s [fi (1)] rfl rfl ?_
    refine f_goto rfl ?_
    refine f_ist [(8, fi (1)), (7, fi (0)), (0, .ref 55), (1, fi (x)), (2, fi (y)), (3, fi (k)), (4, fi (a)), (5, fi (b)), (6, fi (1))] rfl (by decide) hL1 rfl (fun L2 hL2 => ?_)
    refine f_il 8 rfl hL2 rfl ?_
    refine f_if rfl (by decide) (fun c_9 => absurd (show (1 : Int) = (0 : Int) from c_9) (by decide)) (fun _ => ?_)
    refine f_il 1 rfl hL2 rfl ?_
    refine f_goto rfl ?_
    refine f_ist [(9, fi (0)), (8, fi (1)), (7, fi (0)), (0, .ref 55), (1, fi (x)), (2, fi (y)), (3, fi (k)), (4, fi (a)), (5, fi (b)), (6, fi (1))] rfl (by decide) hL2 rfl (fun L3 hL3 => ?_)
    refine f_il 9 rfl hL3 rfl ?_
    refine f_if rfl (by decide) (fun c_9 => absurd (show (1 : Int) = (0 : Int) from c_9) (by decide)) (fun _ => ?_)
    refine f_il 7 rfl hL3 rfl ?_
    refine f_goto rfl ?_
    refine f_ist [(10, fi (a)), (9, fi (0)), (8, fi (1)), (7, fi (0)), (0, .ref 55), (1, fi (x)), (2, fi (y)), (3, fi (k)), (4, fi (a)), (5, fi (b)), (6, fi (1))] rfl (by decide) hL3 rfl (fun L4 hL4 => ?_)
    refine f_il 1 rfl hL4 rfl ?_
    refine f_if rfl (by decide) (fun _ => ?_) (fun c_9 => absurd (show (0 : Int) = (0 : Int) from (by decide)) c_9)
    refine f_il 0 rfl hL4 rfl ?_
    refine f_if rfl (by omega) (fun c9 => ?_) (fun c9 => ?_)
    · have c9 : (a : Int) ≤ (0 : Int) := c9
      refine f_s [fi (0)] rfl rfl ?_
      exact f_ret1 rfl ⟨by rw [show g1 w false true a b = 0 from gB_z (show (false && (decide (b ≤ a) || !true)) = false by rw [decide_eq_false (by omega)] <;> rfl) (by omega)], hw2, hm2⟩
    · have c9 : ¬ ((a : Int) ≤ (0 : Int)) := c9
      refine f_s [fi (-1)] rfl rfl ?_
      refine f_goto rfl ?_
      exact f_ret1 rfl ⟨by rw [show g1 w false true a b = -1 from gB_p (show (false && (decide (b ≤ a) || !true)) = false by rw [decide_eq_false (by omega)] <;> rfl) (by omega)], hw2, hm2⟩
  · have c0 : ¬ ((a : Int) < (b : Int)) := c0
    refine f_aln 0 rfl hL rfl ?_
    refine f_iln 1 rfl hL rfl ?_
    refine f_iln 3 rfl hL rfl ?_
    refine m_k1 (show h_M 178 [.ref 55, fi (x), fi (k)] m (some (fi (0))) m from by have z := t178 (m := m) x1 k1; rw [h1] at z; exact z) hw hm rfl rfl rfl (m_ar so55 hw rfl) rfl (fun hc3 hw3 hm3 => ?_)
    refine f_goto rfl ?_
    refine f_ist [(7, fi (0)), (0, .ref 55), (1, fi (x)), (2, fi (y)), (3, fi (k)), (4, fi (a)), (5, fi (b)), (6, fi (1))] rfl (by decide) hL rfl (fun L5 hL5 => ?_)
    refine f_il 0 rfl hL5 rfl ?_
    refine f_if rfl (by decide) (fun c_9 => absurd (show ¬ (0 : Int) = (0 : Int) from c_9) (by decide)) (fun _ => ?_)
    refine f_aln 1 rfl hL5 rfl ?_
    refine f_iln 3 rfl hL5 rfl ?_
    refine f_iln 4 rfl hL5 rfl ?_
    refine m_k1 (show h_M 178 [.ref 55, fi (y), fi (k)] m (some (fi (1))) m from by have z := t178 (m := m) y1 k1; rw [h2] at z; exact z) hw3 hm3 rfl rfl rfl (m_ar so55 hw3 rfl) rfl (fun hc4 hw4 hm4 => ?_)
    refine f_if rfl (by decide) (fun c_9 => absurd (show (1 : Int) = (0 : Int) from c_9) (by decide)) (fun _ => ?_)
    refine f_s [fi (1)] rfl rfl ?_
    refine f_goto rfl ?_
    refine f_ist [(8, fi (1)), (7, fi (0)), (0, .ref 55), (1, fi (x)), (2, fi (y)), (3, fi (k)), (4, fi (a)), (5, fi (b)), (6, fi (1))] rfl (by decide) hL5 rfl (fun L6 hL6 => ?_)
    refine f_il 8 rfl hL6 rfl ?_
    refine f_if rfl (by decide) (fun c_9 => absurd (show (1 : Int) = (0 : Int) from c_9) (by decide)) (fun _ => ?_)
    refine f_il 1 rfl hL6 rfl ?_
    refine f_goto rfl ?_
    refine f_ist [(9, fi (0)), (8, fi (1)), (7, fi (0)), (0, .ref 55), (1, fi (x)), (2, fi (y)), (3, fi (k)), (4, fi (a)), (5, fi (b)), (6, fi (1))] rfl (by decide) hL6 rfl (fun L7 hL7 => ?_)
    refine f_il 9 rfl hL7 rfl ?_
    refine f_if rfl (by decide) (fun c_9 => absurd (show (1 : Int) = (0 : Int) from c_9) (by decide)) (fun _ => ?_)
    refine f_il 7 rfl hL7 rfl ?_
    refine f_goto rfl ?_
    refine f_ist [(10, fi (a)), (9, fi (0)), (8, fi (1)), (7, fi (0)), (0, .ref 55), (1, fi (x)), (2, fi (y)), (3, fi (k)), (4, fi (a)), (5, fi (b)), (6, fi (1))] rfl (by decide) hL7 rfl (fun L8 hL8 => ?_)
    refine f_il 1 rfl hL8 rfl ?_
    refine f_if rfl (by decide) (fun _ => ?_) (fun c_9 => absurd (show (0 : Int) = (0 : Int) from (by decide)) c_9)
    refine f_il 0 rfl hL8 rfl ?_
    refine f_if rfl (by omega) (fun c9 => ?_) (fun c9 => ?_)
    · have c9 : (a : Int) ≤ (0 : Int) := c9
      refine f_s [fi (0)] rfl rfl ?_
      exact f_ret1 rfl ⟨by rw [show g1 w false true a b = 0 from gB_z (show (false && (decide (b ≤ a) || !true)) = false by rw [decide_eq_true (by omega)] <;> rfl) (by omega)], hw4, hm4⟩
    · have c9 : ¬ ((a : Int) ≤ (0 : Int)) := c9
      refine f_s [fi (-1)] rfl rfl ?_
      refine f_goto rfl ?_
      exact f_ret1 rfl ⟨by rw [show g1 w false true a b = -1 from gB_p (show (false && (decide (b ≤ a) || !true)) = false by rw [decide_eq_true (by omega)] <;> rfl) (by omega)], hw4, hm4⟩)
theorem t179_100 {m : Nat → Nat → Int} {a : Int} (ra : 0 ≤ a ∧ a ≤ 4) {b : Int} (rb : 0 ≤ b ∧ b ≤ 4) {x y k : Int} (x1 : 0 ≤ x ∧ x < 5) (y1 : 0 ≤ y ∧ y < 5) (k1 : 0 ≤ k ∧ k < 4) {w : Int} (hwv : 0 ≤ w ∧ w ≤ 9) (h0 : m 57 (k).toNat = w) (h1 : decide (¬ iA (iR (m 61 16) (x)) (1) = 1 ∧ iA (iR (m 60 (x).toNat) (k)) (1) = 1) = false) (h2 : decide (¬ iA (iR (m 61 16) (y)) (1) = 1 ∧ iA (iR (m 60 (y).toNat) (k)) (1) = 1) = false) : h_M 179 [.ref 55, fi (x), fi (y), fi (k), fi (a), fi (b), fi (1)] m (some (fi (g1 w false false a b))) m := h_M_of (R := ev_r179) rfl (fun hc hw hm => by
  have hL : f_L (lv_args 0 [.ref 55, fi (x), fi (y), fi (k), fi (a), fi (b), fi (1)]) [(0, .ref 55), (1, fi (x)), (2, fi (y)), (3, fi (k)), (4, fi (a)), (5, fi (b)), (6, fi (1))] := f_L_of rfl
  generalize lv_args 0 [.ref 55, fi (x), fi (y), fi (k), fi (a), fi (b), fi (1)] = L at hL
  show x_W none (1, 0, 11, 6, 11, 3, 65, 0, 0, ev_t179) 0 L [] hc 0 0 _
  have hR := gi_R hm
  refine f_il 4 rfl hL rfl ?_
  refine f_il 5 rfl hL rfl ?_
  refine f_ic rfl (by omega) (by omega) (fun c0 => ?_) (fun c0 => ?_)
  · have c0 : (a : Int) < (b : Int) := c0
    refine f_aln 0 rfl hL rfl ?_
    refine f_iln 1 rfl hL rfl ?_
    refine f_iln 3 rfl hL rfl ?_
    refine m_k1 (show h_M 178 [.ref 55, fi (x), fi (k)] m (some (fi (0))) m from by have z := t178 (m := m) x1 k1; rw [h1] at z; exact z) hw hm rfl rfl rfl (m_ar so55 hw rfl) rfl (fun hc1 hw1 hm1 => ?_)
    refine f_if rfl (by decide) (fun _ => ?_) (fun c_9 => absurd (show (0 : Int) = (0 : Int) from (by decide)) c_9)
    refine f_s [fi (0)] rfl rfl ?_
    refine f_ist [(7, fi (0)), (0, .ref 55), (1, fi (x)), (2, fi (y)), (3, fi (k)), (4, fi (a)), (5, fi (b)), (6, fi (1))] rfl (by decide) hL rfl (fun L1 hL1 => ?_)
    refine f_il 0 rfl hL1 rfl ?_
    refine f_if rfl (by decide) (fun c_9 => absurd (show ¬ (0 : Int) = (0 : Int) from c_9) (by decide)) (fun _ => ?_)
    refine f_aln 1 rfl hL1 rfl ?_
    refine f_iln 3 rfl hL1 rfl ?_
    refine f_iln 4 rfl hL1 rfl ?_
    refine m_k1 (show h_M 178 [.ref 55, fi (y), fi (k)] m (some (fi (0))) m from by have z := t178 (m := m) y1 k1; rw [h2] at z; exact z) hw1 hm1 rfl rfl rfl (m_ar so55 hw1 rfl) rfl (fun hc2 hw2 hm2 => ?_)
    refine f_if rfl (by decide) (fun _ => ?_) (fun c_9 => absurd (show (0 : Int) = (0 : Int) from (by decide)) c_9)
    refine f_s [fi (0)] rfl rfl ?_
    refine f_ist [(8, fi (0)), (7, fi (0)), (0, .ref 55), (1, fi (x)), (2, fi (y)), (3, fi (k)), (4, fi (a)), (5, fi (b)), (6, fi (1))] rfl (by decide) hL1 rfl (fun L2 hL2 => ?_)
    refine f_il 8 rfl hL2 rfl ?_
    refine f_if rfl (by decide) (fun c_9 => absurd (show (1 : Int) = (0 : Int) from c_9) (by decide)) (fun _ => ?_)
    refine f_il 1 rfl hL2 rfl ?_
    refine f_goto rfl ?_
    refine f_ist [(9, fi (0)), (8, fi (0)), (7, fi (0)), (0, .ref 55), (1, fi (x)), (2, fi (y)), (3, fi (k)), (4, fi (a)), (5, fi (b)), (6, fi (1))] rfl (by decide) hL2 rfl (fun L3 hL3 => ?_)
    refine f_il 9 rfl hL3 rfl ?_
    refine f_if rfl (by decide) (fun c_9 => absurd (show (1 : Int) = (0 : Int) from c_9) (by decide)) (fun _ => ?_)
    refine f_il 7 rfl hL3 rfl ?_
    refine f_goto rfl ?_
    refine f_ist [(10, fi (a)), (9, fi (0)), (8, fi (0)), (7, fi (0)), (0, .ref 55), (1, fi (x)), (2, fi (y)), (3, fi (k)), (4, fi (a)), (5, fi (b)), (6, fi (1))] rfl (by decide) hL3 rfl (fun L4 hL4 => ?_)
    refine f_il 1 rfl hL4 rfl ?_
    refine f_if rfl (by decide) (fun _ => ?_) (fun c_9 => absurd (show (0 : Int) = (0 : Int) from (by decide)) c_9)
    refine f_il 0 rfl hL4 rfl ?_
    refine f_if rfl (by omega) (fun c9 => ?_) (fun c9 => ?_)
    · have c9 : (a : Int) ≤ (0 : Int) := c9
      refine f_s [fi (0)] rfl rfl ?_
      exact f_ret1 rfl ⟨by rw [show g1 w false false a b = 0 from gB_z (show (false && (decide (b ≤ a) || !false)) = false by rw [decide_eq_false (by omega)] <;> rfl) (by omega)], hw2, hm2⟩
    · have c9 : ¬ ((a : Int) ≤ (0 : Int)) := c9
      refine f_s [fi (-1)] rfl rfl ?_
      refine f_goto rfl ?_
      exact f_ret1 rfl ⟨by rw [show g1 w false false a b = -1 from gB_p (show (false && (decide (b ≤ a) || !false)) = false by rw [decide_eq_false (by omega)] <;> rfl) (by omega)], hw2, hm2⟩
  · have c0 : ¬ ((a : Int) < (b : Int)) := c0
    refine f_aln 0 rfl hL rfl ?_
    refine f_iln 1 rfl hL rfl ?_
    refine f_iln 3 rfl hL rfl ?_
    refine m_k1 (show h_M 178 [.ref 55, fi (x), fi (k)] m (some (fi (0))) m from by have z := t178 (m := m) x1 k1; rw [h1] at z; exact z) hw hm rfl rfl rfl (m_ar so55 hw rfl) rfl (fun hc3 hw3 hm3 => ?_)
    refine f_goto rfl ?_
    refine f_ist [(7, fi (0)), (0, .ref 55), (1, fi (x)), (2, fi (y)), (3, fi (k)), (4, fi (a)), (5, fi (b)), (6, fi (1))] rfl (by decide) hL rfl (fun L5 hL5 => ?_)
    refine f_il 0 rfl hL5 rfl ?_
    refine f_if rfl (by decide) (fun c_9 => absurd (show ¬ (0 : Int) = (0 : Int) from c_9) (by decide)) (fun _ => ?_)
    refine f_aln 1 rfl hL5 rfl ?_
    refine f_iln 3 rfl hL5 rfl ?_
    refine f_iln 4 rfl hL5 rfl ?_
    refine m_k1 (show h_M 178 [.ref 55, fi (y), fi (k)] m (some (fi (0))) m from by have z := t178 (m := m) y1 k1; rw [h2] at z; exact z) hw3 hm3 rfl rfl rfl (m_ar so55 hw3 rfl) rfl (fun hc4 hw4 hm4 => ?_)
    refine f_if rfl (by decide) (fun _ => ?_) (fun c_9 => absurd (show (0 : Int) = (0 : Int) from (by decide)) c_9)
    refine f_s [fi (0)] rfl rfl ?_
    refine f_ist [(8, fi (0)), (7, fi (0)), (0, .ref 55), (1, fi (x)), (2, fi (y)), (3, fi (k)), (4, fi (a)), (5, fi (b)), (6, fi (1))] rfl (by decide) hL5 rfl (fun L6 hL6 => ?_)
    refine f_il 8 rfl hL6 rfl ?_
    refine f_if rfl (by decide) (fun c_9 => absurd (show (1 : Int) = (0 : Int) from c_9) (by decide)) (fun _ => ?_)
    refine f_il 1 rfl hL6 rfl ?_
    refine f_goto rfl ?_
    refine f_ist [(9, fi (0)), (8, fi (0)), (7, fi (0)), (0, .ref 55), (1, fi (x)), (2, fi (y)), (3, fi (k)), (4, fi (a)), (5, fi (b)), (6, fi (1))] rfl (by decide) hL6 rfl (fun L7 hL7 => ?_)
    refine f_il 9 rfl hL7 rfl ?_
    refine f_if rfl (by decide) (fun c_9 => absurd (show (1 : Int) = (0 : Int) from c_9) (by decide)) (fun _ => ?_)
    refine f_il 7 rfl hL7 rfl ?_
    refine f_goto rfl ?_
    refine f_ist [(10, fi (a)), (9, fi (0)), (8, fi (0)), (7, fi (0)), (0, .ref 55), (1, fi (x)), (2, fi (y)), (3, fi (k)), (4, fi (a)), (5, fi (b)), (6, fi (1))] rfl (by decide) hL7 rfl (fun L8 hL8 => ?_)
    refine f_il 1 rfl hL8 rfl ?_
    refine f_if rfl (by decide) (fun _ => ?_) (fun c_9 => absurd (show (0 : Int) = (0 : Int) from (by decide)) c_9)
    refine f_il 0 rfl hL8 rfl ?_
    refine f_if rfl (by omega) (fun c9 => ?_) (fun c9 => ?_)
    · have c9 : (a : Int) ≤ (0 : Int) := c9
      refine f_s [fi (0)] rfl rfl ?_
      exact f_ret1 rfl ⟨by rw [show g1 w false false a b = 0 from gB_z (show (false && (decide (b ≤ a) || !false)) = false by rw [decide_eq_true (by omega)] <;> rfl) (by omega)], hw4, hm4⟩
    · have c9 : ¬ ((a : Int) ≤ (0 : Int)) := c9
      refine f_s [fi (-1)] rfl rfl ?_
      refine f_goto rfl ?_
      exact f_ret1 rfl ⟨by rw [show g1 w false false a b = -1 from gB_p (show (false && (decide (b ≤ a) || !false)) = false by rw [decide_eq_true (by omega)] <;> rfl) (by omega)], hw4, hm4⟩)
theorem t179_1 {m : Nat → Nat → Int} {a : Int} (ra : 0 ≤ a ∧ a ≤ 4) {b : Int} (rb : 0 ≤ b ∧ b ≤ 4) {x y k : Int} (x1 : 0 ≤ x ∧ x < 5) (y1 : 0 ≤ y ∧ y < 5) (k1 : 0 ≤ k ∧ k < 4) {w : Int} {f1 f2 : Bool} (hwv : 0 ≤ w ∧ w ≤ 9) (h0 : m 57 (k).toNat = w) (h1 : decide (¬ iA (iR (m 61 16) (x)) (1) = 1 ∧ iA (iR (m 60 (x).toNat) (k)) (1) = 1) = f1) (h2 : decide (¬ iA (iR (m 61 16) (y)) (1) = 1 ∧ iA (iR (m 60 (y).toNat) (k)) (1) = 1) = f2) : h_M 179 [.ref 55, fi (x), fi (y), fi (k), fi (a), fi (b), fi (1)] m (some (fi (g1 w f1 f2 a b))) m := by
  cases f1 <;> cases f2
  · exact t179_100 ra rb x1 y1 k1 hwv h0 h1 h2
  · exact t179_101 ra rb x1 y1 k1 hwv h0 h1 h2
  · exact t179_110 ra rb x1 y1 k1 hwv h0 h1 h2
  · exact t179_111 ra rb x1 y1 k1 hwv h0 h1 h2
theorem t179_011 {m : Nat → Nat → Int} {a : Int} (ra : 0 ≤ a ∧ a ≤ 4) {b : Int} (rb : 0 ≤ b ∧ b ≤ 4) {x y k : Int} (x1 : 0 ≤ x ∧ x < 5) (y1 : 0 ≤ y ∧ y < 5) (k1 : 0 ≤ k ∧ k < 4) {w : Int} (hwv : 0 ≤ w ∧ w ≤ 9) (h0 : m 57 (k).toNat = w) (h1 : decide (¬ iA (iR (m 61 16) (x)) (1) = 1 ∧ iA (iR (m 60 (x).toNat) (k)) (1) = 1) = true) (h2 : decide (¬ iA (iR (m 61 16) (y)) (1) = 1 ∧ iA (iR (m 60 (y).toNat) (k)) (1) = 1) = true) : h_M 179 [.ref 55, fi (x), fi (y), fi (k), fi (a), fi (b), fi (0)] m (some (fi (g2 w true true a b))) m := h_M_of (R := ev_r179) rfl (fun hc hw hm => by
  have hL : f_L (lv_args 0 [.ref 55, fi (x), fi (y), fi (k), fi (a), fi (b), fi (0)]) [(0, .ref 55), (1, fi (x)), (2, fi (y)), (3, fi (k)), (4, fi (a)), (5, fi (b)), (6, fi (0))] := f_L_of rfl
  generalize lv_args 0 [.ref 55, fi (x), fi (y), fi (k), fi (a), fi (b), fi (0)] = L at hL
  show x_W none (1, 0, 11, 6, 11, 3, 65, 0, 0, ev_t179) 0 L [] hc 0 0 _
  have hR := gi_R hm
  refine f_il 4 rfl hL rfl ?_
  refine f_il 5 rfl hL rfl ?_
  refine f_ic rfl (by omega) (by omega) (fun c0 => ?_) (fun c0 => ?_)
  · have c0 : (a : Int) < (b : Int) := c0
    refine f_aln 0 rfl hL rfl ?_
    refine f_iln 1 rfl hL rfl ?_
    refine f_iln 3 rfl hL rfl ?_
    refine m_k1 (show h_M 178 [.ref 55, fi (x), fi (k)] m (some (fi (1))) m from by have z := t178 (m := m) x1 k1; rw [h1] at z; exact z) hw hm rfl rfl rfl (m_ar so55 hw rfl) rfl (fun hc1 hw1 hm1 => ?_)
    refine f_if rfl (by decide) (fun c_9 => absurd (show (1 : Int) = (0 : Int) from c_9) (by decide)) (fun _ => ?_)
    refine f_aln 0 rfl hL rfl ?_
    refine f_iln 2 rfl hL rfl ?_
    refine f_iln 3 rfl hL rfl ?_
    refine m_k1 (show h_M 178 [.ref 55, fi (y), fi (k)] m (some (fi (1))) m from by have z := t178 (m := m) y1 k1; rw [h2] at z; exact z) hw1 hm1 rfl rfl rfl (m_ar so55 hw1 rfl) rfl (fun hc2 hw2 hm2 => ?_)
    refine f_if rfl (by decide) (fun _ => ?_) (fun c_9 => absurd (show ¬ (1 : Int) = (0 : Int) from (by decide)) c_9)
    refine f_s [fi (0)] rfl rfl ?_
    refine f_ist [(7, fi (0)), (0, .ref 55), (1, fi (x)), (2, fi (y)), (3, fi (k)), (4, fi (a)), (5, fi (b)), (6, fi (0))] rfl (by decide) hL rfl (fun L1 hL1 => ?_)
    refine f_il 0 rfl hL1 rfl ?_
    refine f_if rfl (by decide) (fun c_9 => absurd (show ¬ (0 : Int) = (0 : Int) from c_9) (by decide)) (fun _ => ?_)
    refine f_aln 1 rfl hL1 rfl ?_
    refine f_iln 3 rfl hL1 rfl ?_
    refine f_iln 4 rfl hL1 rfl ?_
    refine m_k1 (show h_M 178 [.ref 55, fi (y), fi (k)] m (some (fi (1))) m from by have z := t178 (m := m) y1 k1; rw [h2] at z; exact z) hw2 hm2 rfl rfl rfl (m_ar so55 hw2 rfl) rfl (fun hc3 hw3 hm3 => ?_)
    refine f_if rfl (by decide) (fun c_9 => absurd (show (1 : Int) = (0 : Int) from c_9) (by decide)) (fun _ => ?_)
    refine f_s [fi (1)] rfl rfl ?_
    refine f_goto rfl ?_
    refine f_ist [(8, fi (1)), (7, fi (0)), (0, .ref 55), (1, fi (x)), (2, fi (y)), (3, fi (k)), (4, fi (a)), (5, fi (b)), (6, fi (0))] rfl (by decide) hL1 rfl (fun L2 hL2 => ?_)
    refine f_il 8 rfl hL2 rfl ?_
    refine f_if rfl (by decide) (fun _ => ?_) (fun c_9 => absurd (show (0 : Int) = (0 : Int) from (by decide)) c_9)
    refine f_il 0 rfl hL2 rfl ?_
    refine f_ist [(9, fi (1)), (8, fi (1)), (7, fi (0)), (0, .ref 55), (1, fi (x)), (2, fi (y)), (3, fi (k)), (4, fi (a)), (5, fi (b)), (6, fi (0))] rfl (by decide) hL2 rfl (fun L3 hL3 => ?_)
    refine f_il 9 rfl hL3 rfl ?_
    refine f_if rfl (by decide) (fun _ => ?_) (fun c_9 => absurd (show (0 : Int) = (0 : Int) from (by decide)) c_9)
    refine f_il 8 rfl hL3 rfl ?_
    refine f_ist [(10, fi (b)), (9, fi (1)), (8, fi (1)), (7, fi (0)), (0, .ref 55), (1, fi (x)), (2, fi (y)), (3, fi (k)), (4, fi (a)), (5, fi (b)), (6, fi (0))] rfl (by decide) hL3 rfl (fun L4 hL4 => ?_)
    refine f_il 1 rfl hL4 rfl ?_
    refine f_if rfl (by decide) (fun c_9 => absurd (show (1 : Int) = (0 : Int) from c_9) (by decide)) (fun _ => ?_)
    refine f_aln 4 rfl hL4 rfl ?_
    refine m_gfr so55 rfl hw3 rfl (by decide) ?_
    refine f_iln 7 rfl hL4 rfl ?_
    refine m_ia sa57 (w) rfl hw3 hm3 (by omega) (by omega) (by decide) h0 ?_
    refine f_il 0 rfl hL4 rfl ?_
    refine f_isub rfl ?_
    refine f_goto rfl ?_
    exact f_ret1 rfl ⟨by rw [show g2 w true true a b = w - b from gB_t (show (true && (decide (a < b) || !true)) = true by rw [decide_eq_true (by omega)] <;> rfl)], hw3, hm3⟩
  · have c0 : ¬ ((a : Int) < (b : Int)) := c0
    refine f_aln 0 rfl hL rfl ?_
    refine f_iln 1 rfl hL rfl ?_
    refine f_iln 3 rfl hL rfl ?_
    refine m_k1 (show h_M 178 [.ref 55, fi (x), fi (k)] m (some (fi (1))) m from by have z := t178 (m := m) x1 k1; rw [h1] at z; exact z) hw hm rfl rfl rfl (m_ar so55 hw rfl) rfl (fun hc4 hw4 hm4 => ?_)
    refine f_goto rfl ?_
    refine f_ist [(7, fi (1)), (0, .ref 55), (1, fi (x)), (2, fi (y)), (3, fi (k)), (4, fi (a)), (5, fi (b)), (6, fi (0))] rfl (by decide) hL rfl (fun L5 hL5 => ?_)
    refine f_il 0 rfl hL5 rfl ?_
    refine f_if rfl (by decide) (fun _ => ?_) (fun c_9 => absurd (show ¬ (1 : Int) = (0 : Int) from (by decide)) c_9)
    refine f_s [fi (0)] rfl rfl ?_
    refine f_ist [(8, fi (0)), (7, fi (1)), (0, .ref 55), (1, fi (x)), (2, fi (y)), (3, fi (k)), (4, fi (a)), (5, fi (b)), (6, fi (0))] rfl (by decide) hL5 rfl (fun L6 hL6 => ?_)
    refine f_il 8 rfl hL6 rfl ?_
    refine f_if rfl (by decide) (fun _ => ?_) (fun c_9 => absurd (show (0 : Int) = (0 : Int) from (by decide)) c_9)
    refine f_il 0 rfl hL6 rfl ?_
    refine f_ist [(9, fi (0)), (8, fi (0)), (7, fi (1)), (0, .ref 55), (1, fi (x)), (2, fi (y)), (3, fi (k)), (4, fi (a)), (5, fi (b)), (6, fi (0))] rfl (by decide) hL6 rfl (fun L7 hL7 => ?_)
    refine f_il 9 rfl hL7 rfl ?_
    refine f_if rfl (by decide) (fun _ => ?_) (fun c_9 => absurd (show (0 : Int) = (0 : Int) from (by decide)) c_9)
    refine f_il 8 rfl hL7 rfl ?_
    refine f_ist [(10, fi (b)), (9, fi (0)), (8, fi (0)), (7, fi (1)), (0, .ref 55), (1, fi (x)), (2, fi (y)), (3, fi (k)), (4, fi (a)), (5, fi (b)), (6, fi (0))] rfl (by decide) hL7 rfl (fun L8 hL8 => ?_)
    refine f_il 1 rfl hL8 rfl ?_
    refine f_if rfl (by decide) (fun _ => ?_) (fun c_9 => absurd (show (0 : Int) = (0 : Int) from (by decide)) c_9)
    refine f_il 0 rfl hL8 rfl ?_
    refine f_if rfl (by omega) (fun c9 => ?_) (fun c9 => ?_)
    · have c9 : (b : Int) ≤ (0 : Int) := c9
      refine f_s [fi (0)] rfl rfl ?_
      exact f_ret1 rfl ⟨by rw [show g2 w true true a b = 0 from gB_z (show (true && (decide (a < b) || !true)) = false by rw [decide_eq_false (by omega)] <;> rfl) (by omega)], hw4, hm4⟩
    · have c9 : ¬ ((b : Int) ≤ (0 : Int)) := c9
      refine f_s [fi (-1)] rfl rfl ?_
      refine f_goto rfl ?_
      exact f_ret1 rfl ⟨by rw [show g2 w true true a b = -1 from gB_p (show (true && (decide (a < b) || !true)) = false by rw [decide_eq_false (by omega)] <;> rfl) (by omega)], hw4, hm4⟩)
theorem t179_010 {m : Nat → Nat → Int} {a : Int} (ra : 0 ≤ a ∧ a ≤ 4) {b : Int} (rb : 0 ≤ b ∧ b ≤ 4) {x y k : Int} (x1 : 0 ≤ x ∧ x < 5) (y1 : 0 ≤ y ∧ y < 5) (k1 : 0 ≤ k ∧ k < 4) {w : Int} (hwv : 0 ≤ w ∧ w ≤ 9) (h0 : m 57 (k).toNat = w) (h1 : decide (¬ iA (iR (m 61 16) (x)) (1) = 1 ∧ iA (iR (m 60 (x).toNat) (k)) (1) = 1) = true) (h2 : decide (¬ iA (iR (m 61 16) (y)) (1) = 1 ∧ iA (iR (m 60 (y).toNat) (k)) (1) = 1) = false) : h_M 179 [.ref 55, fi (x), fi (y), fi (k), fi (a), fi (b), fi (0)] m (some (fi (g2 w true false a b))) m := h_M_of (R := ev_r179) rfl (fun hc hw hm => by
  have hL : f_L (lv_args 0 [.ref 55, fi (x), fi (y), fi (k), fi (a), fi (b), fi (0)]) [(0, .ref 55), (1, fi (x)), (2, fi (y)), (3, fi (k)), (4, fi (a)), (5, fi (b)), (6, fi (0))] := f_L_of rfl
  generalize lv_args 0 [.ref 55, fi (x), fi (y), fi (k), fi (a), fi (b), fi (0)] = L at hL
  show x_W none (1, 0, 11, 6, 11, 3, 65, 0, 0, ev_t179) 0 L [] hc 0 0 _
  have hR := gi_R hm
  refine f_il 4 rfl hL rfl ?_
  refine f_il 5 rfl hL rfl ?_
  refine f_ic rfl (by omega) (by omega) (fun c0 => ?_) (fun c0 => ?_)
  · have c0 : (a : Int) < (b : Int) := c0
    refine f_aln 0 rfl hL rfl ?_
    refine f_iln 1 rfl hL rfl ?_
    refine f_iln 3 rfl hL rfl ?_
    refine m_k1 (show h_M 178 [.ref 55, fi (x), fi (k)] m (some (fi (1))) m from by have z := t178 (m := m) x1 k1; rw [h1] at z; exact z) hw hm rfl rfl rfl (m_ar so55 hw rfl) rfl (fun hc1 hw1 hm1 => ?_)
    refine f_if rfl (by decide) (fun c_9 => absurd (show (1 : Int) = (0 : Int) from c_9) (by decide)) (fun _ => ?_)
    refine f_aln 0 rfl hL rfl ?_
    refine f_iln 2 rfl hL rfl ?_
    refine f_iln 3 rfl hL rfl ?_
    refine m_k1 (show h_M 178 [.ref 55, fi (y), fi (k)] m (some (fi (0))) m from by have z := t178 (m := m) y1 k1; rw [h2] at z; exact z) hw1 hm1 rfl rfl rfl (m_ar so55 hw1 rfl) rfl (fun hc2 hw2 hm2 => ?_)
    refine f_if rfl (by decide) (fun c_9 => absurd (show ¬ (0 : Int) = (0 : Int) from c_9) (by decide)) (fun _ => ?_)
    refine f_s [fi (1)] rfl rfl ?_
    refine f_goto rfl ?_
    refine f_ist [(7, fi (1)), (0, .ref 55), (1, fi (x)), (2, fi (y)), (3, fi (k)), (4, fi (a)), (5, fi (b)), (6, fi (0))] rfl (by decide) hL rfl (fun L1 hL1 => ?_)
    refine f_il 0 rfl hL1 rfl ?_
    refine f_if rfl (by decide) (fun _ => ?_) (fun c_9 => absurd (show ¬ (1 : Int) = (0 : Int) from (by decide)) c_9)
    refine f_s [fi (0)] rfl rfl ?_
    refine f_ist [(8, fi (0)), (7, fi (1)), (0, .ref 55), (1, fi (x)), (2, fi (y)), (3, fi (k)), (4, fi (a)), (5, fi (b)), (6, fi (0))] rfl (by decide) hL1 rfl (fun L2 hL2 => ?_)
    refine f_il 8 rfl hL2 rfl ?_
    refine f_if rfl (by decide) (fun _ => ?_) (fun c_9 => absurd (show (0 : Int) = (0 : Int) from (by decide)) c_9)
    refine f_il 0 rfl hL2 rfl ?_
    refine f_ist [(9, fi (0)), (8, fi (0)), (7, fi (1)), (0, .ref 55), (1, fi (x)), (2, fi (y)), (3, fi (k)), (4, fi (a)), (5, fi (b)), (6, fi (0))] rfl (by decide) hL2 rfl (fun L3 hL3 => ?_)
    refine f_il 9 rfl hL3 rfl ?_
    refine f_if rfl (by decide) (fun _ => ?_) (fun c_9 => absurd (show (0 : Int) = (0 : Int) from (by decide)) c_9)
    refine f_il 8 rfl hL3 rfl ?_
    refine f_ist [(10, fi (b)), (9, fi (0)), (8, fi (0)), (7, fi (1)), (0, .ref 55), (1, fi (x)), (2, fi (y)), (3, fi (k)), (4, fi (a)), (5, fi (b)), (6, fi (0))] rfl (by decide) hL3 rfl (fun L4 hL4 => ?_)
    refine f_il 1 rfl hL4 rfl ?_
    refine f_if rfl (by decide) (fun _ => ?_) (fun c_9 => absurd (show (0 : Int) = (0 : Int) from (by decide)) c_9)
    refine f_il 0 rfl hL4 rfl ?_
    refine f_if rfl (by omega) (fun c9 => ?_) (fun c9 => ?_)
    · have c9 : (b : Int) ≤ (0 : Int) := c9
      refine f_s [fi (0)] rfl rfl ?_
      exact f_ret1 rfl ⟨by rw [show g2 w true false a b = 0 from gB_z (show (false && (decide (a < b) || !true)) = false by rw [decide_eq_true (by omega)] <;> rfl) (by omega)], hw2, hm2⟩
    · have c9 : ¬ ((b : Int) ≤ (0 : Int)) := c9
      refine f_s [fi (-1)] rfl rfl ?_
      refine f_goto rfl ?_
      exact f_ret1 rfl ⟨by rw [show g2 w true false a b = -1 from gB_p (show (false && (decide (a < b) || !true)) = false by rw [decide_eq_true (by omega)] <;> rfl) (by omega)], hw2, hm2⟩
  · have c0 : ¬ ((a : Int) < (b : Int)) := c0
    refine f_aln 0 rfl hL rfl ?_
    refine f_iln 1 rfl hL rfl ?_
    refine f_iln 3 rfl hL rfl ?_
    refine m_k1 (show h_M 178 [.ref 55, fi (x), fi (k)] m (some (fi (1))) m from by have z := t178 (m := m) x1 k1; rw [h1] at z; exact z) hw hm rfl rfl rfl (m_ar so55 hw rfl) rfl (fun hc3 hw3 hm3 => ?_)
    refine f_goto rfl ?_
    refine f_ist [(7, fi (1)), (0, .ref 55), (1, fi (x)), (2, fi (y)), (3, fi (k)), (4, fi (a)), (5, fi (b)), (6, fi (0))] rfl (by decide) hL rfl (fun L5 hL5 => ?_)
    refine f_il 0 rfl hL5 rfl ?_
    refine f_if rfl (by decide) (fun _ => ?_) (fun c_9 => absurd (show ¬ (1 : Int) = (0 : Int) from (by decide)) c_9)
    refine f_s [fi (0)] rfl rfl ?_
    refine f_ist [(8, fi (0)), (7, fi (1)), (0, .ref 55), (1, fi (x)), (2, fi (y)), (3, fi (k)), (4, fi (a)), (5, fi (b)), (6, fi (0))] rfl (by decide) hL5 rfl (fun L6 hL6 => ?_)
    refine f_il 8 rfl hL6 rfl ?_
    refine f_if rfl (by decide) (fun _ => ?_) (fun c_9 => absurd (show (0 : Int) = (0 : Int) from (by decide)) c_9)
    refine f_il 0 rfl hL6 rfl ?_
    refine f_ist [(9, fi (0)), (8, fi (0)), (7, fi (1)), (0, .ref 55), (1, fi (x)), (2, fi (y)), (3, fi (k)), (4, fi (a)), (5, fi (b)), (6, fi (0))] rfl (by decide) hL6 rfl (fun L7 hL7 => ?_)
    refine f_il 9 rfl hL7 rfl ?_
    refine f_if rfl (by decide) (fun _ => ?_) (fun c_9 => absurd (show (0 : Int) = (0 : Int) from (by decide)) c_9)
    refine f_il 8 rfl hL7 rfl ?_
    refine f_ist [(10, fi (b)), (9, fi (0)), (8, fi (0)), (7, fi (1)), (0, .ref 55), (1, fi (x)), (2, fi (y)), (3, fi (k)), (4, fi (a)), (5, fi (b)), (6, fi (0))] rfl (by decide) hL7 rfl (fun L8 hL8 => ?_)
    refine f_il 1 rfl hL8 rfl ?_
    refine f_if rfl (by decide) (fun _ => ?_) (fun c_9 => absurd (show (0 : Int) = (0 : Int) from (by decide)) c_9)
    refine f_il 0 rfl hL8 rfl ?_
    refine f_if rfl (by omega) (fun c9 => ?_) (fun c9 => ?_)
    · have c9 : (b : Int) ≤ (0 : Int) := c9
      refine f_s [fi (0)] rfl rfl ?_
      exact f_ret1 rfl ⟨by rw [show g2 w true false a b = 0 from gB_z (show (false && (decide (a < b) || !true)) = false by rw [decide_eq_false (by omega)] <;> rfl) (by omega)], hw3, hm3⟩
    · have c9 : ¬ ((b : Int) ≤ (0 : Int)) := c9
      refine f_s [fi (-1)] rfl rfl ?_
      refine f_goto rfl ?_
      exact f_ret1 rfl ⟨by rw [show g2 w true false a b = -1 from gB_p (show (false && (decide (a < b) || !true)) = false by rw [decide_eq_false (by omega)] <;> rfl) (by omega)], hw3, hm3⟩)
theorem t179_001 {m : Nat → Nat → Int} {a : Int} (ra : 0 ≤ a ∧ a ≤ 4) {b : Int} (rb : 0 ≤ b ∧ b ≤ 4) {x y k : Int} (x1 : 0 ≤ x ∧ x < 5) (y1 : 0 ≤ y ∧ y < 5) (k1 : 0 ≤ k ∧ k < 4) {w : Int} (hwv : 0 ≤ w ∧ w ≤ 9) (h0 : m 57 (k).toNat = w) (h1 : decide (¬ iA (iR (m 61 16) (x)) (1) = 1 ∧ iA (iR (m 60 (x).toNat) (k)) (1) = 1) = false) (h2 : decide (¬ iA (iR (m 61 16) (y)) (1) = 1 ∧ iA (iR (m 60 (y).toNat) (k)) (1) = 1) = true) : h_M 179 [.ref 55, fi (x), fi (y), fi (k), fi (a), fi (b), fi (0)] m (some (fi (g2 w false true a b))) m := h_M_of (R := ev_r179) rfl (fun hc hw hm => by
  have hL : f_L (lv_args 0 [.ref 55, fi (x), fi (y), fi (k), fi (a), fi (b), fi (0)]) [(0, .ref 55), (1, fi (x)), (2, fi (y)), (3, fi (k)), (4, fi (a)), (5, fi (b)), (6, fi (0))] := f_L_of rfl
  generalize lv_args 0 [.ref 55, fi (x), fi (y), fi (k), fi (a), fi (b), fi (0)] = L at hL
  show x_W none (1, 0, 11, 6, 11, 3, 65, 0, 0, ev_t179) 0 L [] hc 0 0 _
  have hR := gi_R hm
  refine f_il 4 rfl hL rfl ?_
  refine f_il 5 rfl hL rfl ?_
  refine f_ic rfl (by omega) (by omega) (fun c0 => ?_) (fun c0 => ?_)
  · have c0 : (a : Int) < (b : Int) := c0
    refine f_aln 0 rfl hL rfl ?_
    refine f_iln 1 rfl hL rfl ?_
    refine f_iln 3 rfl hL rfl ?_
    refine m_k1 (show h_M 178 [.ref 55, fi (x), fi (k)] m (some (fi (0))) m from by have z := t178 (m := m) x1 k1; rw [h1] at z; exact z) hw hm rfl rfl rfl (m_ar so55 hw rfl) rfl (fun hc1 hw1 hm1 => ?_)
    refine f_if rfl (by decide) (fun _ => ?_) (fun c_9 => absurd (show (0 : Int) = (0 : Int) from (by decide)) c_9)
    refine f_s [fi (0)] rfl rfl ?_
    refine f_ist [(7, fi (0)), (0, .ref 55), (1, fi (x)), (2, fi (y)), (3, fi (k)), (4, fi (a)), (5, fi (b)), (6, fi (0))] rfl (by decide) hL rfl (fun L1 hL1 => ?_)
    refine f_il 0 rfl hL1 rfl ?_
    refine f_if rfl (by decide) (fun c_9 => absurd (show ¬ (0 : Int) = (0 : Int) from c_9) (by decide)) (fun _ => ?_)
    refine f_aln 1 rfl hL1 rfl ?_
    refine f_iln 3 rfl hL1 rfl ?_
    refine f_iln 4 rfl hL1 rfl ?_
    refine m_k1 (show h_M 178 [.ref 55, fi (y), fi (k)] m (some (fi (1))) m from by have z := t178 (m := m) y1 k1; rw [h2] at z; exact z) hw1 hm1 rfl rfl rfl (m_ar so55 hw1 rfl) rfl (fun hc2 hw2 hm2 => ?_)
    refine f_if rfl (by decide) (fun c_9 => absurd (show (1 : Int) = (0 : Int) from c_9) (by decide)) (fun _ => ?_)
    refine f_s [fi (1)] rfl rfl ?_
    refine f_goto rfl ?_
    refine f_ist [(8, fi (1)), (7, fi (0)), (0, .ref 55), (1, fi (x)), (2, fi (y)), (3, fi (k)), (4, fi (a)), (5, fi (b)), (6, fi (0))] rfl (by decide) hL1 rfl (fun L2 hL2 => ?_)
    refine f_il 8 rfl hL2 rfl ?_
    refine f_if rfl (by decide) (fun _ => ?_) (fun c_9 => absurd (show (0 : Int) = (0 : Int) from (by decide)) c_9)
    refine f_il 0 rfl hL2 rfl ?_
    refine f_ist [(9, fi (1)), (8, fi (1)), (7, fi (0)), (0, .ref 55), (1, fi (x)), (2, fi (y)), (3, fi (k)), (4, fi (a)), (5, fi (b)), (6, fi (0))] rfl (by decide) hL2 rfl (fun L3 hL3 => ?_)
    refine f_il 9 rfl hL3 rfl ?_
    refine f_if rfl (by decide) (fun _ => ?_) (fun c_9 => absurd (show (0 : Int) = (0 : Int) from (by decide)) c_9)
    refine f_il 8 rfl hL3 rfl ?_
    refine f_ist [(10, fi (b)), (9, fi (1)), (8, fi (1)), (7, fi (0)), (0, .ref 55), (1, fi (x)), (2, fi (y)), (3, fi (k)), (4, fi (a)), (5, fi (b)), (6, fi (0))] rfl (by decide) hL3 rfl (fun L4 hL4 => ?_)
    refine f_il 1 rfl hL4 rfl ?_
    refine f_if rfl (by decide) (fun c_9 => absurd (show (1 : Int) = (0 : Int) from c_9) (by decide)) (fun _ => ?_)
    refine f_aln 4 rfl hL4 rfl ?_
    refine m_gfr so55 rfl hw2 rfl (by decide) ?_
    refine f_iln 7 rfl hL4 rfl ?_
    refine m_ia sa57 (w) rfl hw2 hm2 (by omega) (by omega) (by decide) h0 ?_
    refine f_il 0 rfl hL4 rfl ?_
    refine f_isub rfl ?_
    refine f_goto rfl ?_
    exact f_ret1 rfl ⟨by rw [show g2 w false true a b = w - b from gB_t (show (true && (decide (a < b) || !false)) = true by rw [decide_eq_true (by omega)] <;> rfl)], hw2, hm2⟩
  · have c0 : ¬ ((a : Int) < (b : Int)) := c0
    refine f_aln 0 rfl hL rfl ?_
    refine f_iln 1 rfl hL rfl ?_
    refine f_iln 3 rfl hL rfl ?_
    refine m_k1 (show h_M 178 [.ref 55, fi (x), fi (k)] m (some (fi (0))) m from by have z := t178 (m := m) x1 k1; rw [h1] at z; exact z) hw hm rfl rfl rfl (m_ar so55 hw rfl) rfl (fun hc3 hw3 hm3 => ?_)
    refine f_goto rfl ?_
    refine f_ist [(7, fi (0)), (0, .ref 55), (1, fi (x)), (2, fi (y)), (3, fi (k)), (4, fi (a)), (5, fi (b)), (6, fi (0))] rfl (by decide) hL rfl (fun L5 hL5 => ?_)
    refine f_il 0 rfl hL5 rfl ?_
    refine f_if rfl (by decide) (fun c_9 => absurd (show ¬ (0 : Int) = (0 : Int) from c_9) (by decide)) (fun _ => ?_)
    refine f_aln 1 rfl hL5 rfl ?_
    refine f_iln 3 rfl hL5 rfl ?_
    refine f_iln 4 rfl hL5 rfl ?_
    refine m_k1 (show h_M 178 [.ref 55, fi (y), fi (k)] m (some (fi (1))) m from by have z := t178 (m := m) y1 k1; rw [h2] at z; exact z) hw3 hm3 rfl rfl rfl (m_ar so55 hw3 rfl) rfl (fun hc4 hw4 hm4 => ?_)
    refine f_if rfl (by decide) (fun c_9 => absurd (show (1 : Int) = (0 : Int) from c_9) (by decide)) (fun _ => ?_)
    refine f_s [fi (1)] rfl rfl ?_
    refine f_goto rfl ?_
    refine f_ist [(8, fi (1)), (7, fi (0)), (0, .ref 55), (1, fi (x)), (2, fi (y)), (3, fi (k)), (4, fi (a)), (5, fi (b)), (6, fi (0))] rfl (by decide) hL5 rfl (fun L6 hL6 => ?_)
    refine f_il 8 rfl hL6 rfl ?_
    refine f_if rfl (by decide) (fun _ => ?_) (fun c_9 => absurd (show (0 : Int) = (0 : Int) from (by decide)) c_9)
    refine f_il 0 rfl hL6 rfl ?_
    refine f_ist [(9, fi (1)), (8, fi (1)), (7, fi (0)), (0, .ref 55), (1, fi (x)), (2, fi (y)), (3, fi (k)), (4, fi (a)), (5, fi (b)), (6, fi (0))] rfl (by decide) hL6 rfl (fun L7 hL7 => ?_)
    refine f_il 9 rfl hL7 rfl ?_
    refine f_if rfl (by decide) (fun _ => ?_) (fun c_9 => absurd (show (0 : Int) = (0 : Int) from (by decide)) c_9)
    refine f_il 8 rfl hL7 rfl ?_
    refine f_ist [(10, fi (b)), (9, fi (1)), (8, fi (1)), (7, fi (0)), (0, .ref 55), (1, fi (x)), (2, fi (y)), (3, fi (k)), (4, fi (a)), (5, fi (b)), (6, fi (0))] rfl (by decide) hL7 rfl (fun L8 hL8 => ?_)
    refine f_il 1 rfl hL8 rfl ?_
    refine f_if rfl (by decide) (fun c_9 => absurd (show (1 : Int) = (0 : Int) from c_9) (by decide)) (fun _ => ?_)
    refine f_aln 4 rfl hL8 rfl ?_
    refine m_gfr so55 rfl hw4 rfl (by decide) ?_
    refine f_iln 7 rfl hL8 rfl ?_
    refine m_ia sa57 (w) rfl hw4 hm4 (by omega) (by omega) (by decide) h0 ?_
    refine f_il 0 rfl hL8 rfl ?_
    refine f_isub rfl ?_
    refine f_goto rfl ?_
    exact f_ret1 rfl ⟨by rw [show g2 w false true a b = w - b from gB_t (show (true && (decide (a < b) || !false)) = true by rw [decide_eq_false (by omega)] <;> rfl)], hw4, hm4⟩)
theorem t179_000 {m : Nat → Nat → Int} {a : Int} (ra : 0 ≤ a ∧ a ≤ 4) {b : Int} (rb : 0 ≤ b ∧ b ≤ 4) {x y k : Int} (x1 : 0 ≤ x ∧ x < 5) (y1 : 0 ≤ y ∧ y < 5) (k1 : 0 ≤ k ∧ k < 4) {w : Int} (hwv : 0 ≤ w ∧ w ≤ 9) (h0 : m 57 (k).toNat = w) (h1 : decide (¬ iA (iR (m 61 16) (x)) (1) = 1 ∧ iA (iR (m 60 (x).toNat) (k)) (1) = 1) = false) (h2 : decide (¬ iA (iR (m 61 16) (y)) (1) = 1 ∧ iA (iR (m 60 (y).toNat) (k)) (1) = 1) = false) : h_M 179 [.ref 55, fi (x), fi (y), fi (k), fi (a), fi (b), fi (0)] m (some (fi (g2 w false false a b))) m := h_M_of (R := ev_r179) rfl (fun hc hw hm => by
  have hL : f_L (lv_args 0 [.ref 55, fi (x), fi (y), fi (k), fi (a), fi (b), fi (0)]) [(0, .ref 55), (1, fi (x)), (2, fi (y)), (3, fi (k)), (4, fi (a)), (5, fi (b)), (6, fi (0))] := f_L_of rfl
  generalize lv_args 0 [.ref 55, fi (x), fi (y), fi (k), fi (a), fi (b), fi (0)] = L at hL
  show x_W none (1, 0, 11, 6, 11, 3, 65, 0, 0, ev_t179) 0 L [] hc 0 0 _
  have hR := gi_R hm
  refine f_il 4 rfl hL rfl ?_
  refine f_il 5 rfl hL rfl ?_
  refine f_ic rfl (by omega) (by omega) (fun c0 => ?_) (fun c0 => ?_)
  · have c0 : (a : Int) < (b : Int) := c0
    refine f_aln 0 rfl hL rfl ?_
    refine f_iln 1 rfl hL rfl ?_
    refine f_iln 3 rfl hL rfl ?_
    refine m_k1 (show h_M 178 [.ref 55, fi (x), fi (k)] m (some (fi (0))) m from by have z := t178 (m := m) x1 k1; rw [h1] at z; exact z) hw hm rfl rfl rfl (m_ar so55 hw rfl) rfl (fun hc1 hw1 hm1 => ?_)
    refine f_if rfl (by decide) (fun _ => ?_) (fun c_9 => absurd (show (0 : Int) = (0 : Int) from (by decide)) c_9)
    refine f_s [fi (0)] rfl rfl ?_
    refine f_ist [(7, fi (0)), (0, .ref 55), (1, fi (x)), (2, fi (y)), (3, fi (k)), (4, fi (a)), (5, fi (b)), (6, fi (0))] rfl (by decide) hL rfl (fun L1 hL1 => ?_)
    refine f_il 0 rfl hL1 rfl ?_
    refine f_if rfl (by decide) (fun c_9 => absurd (show ¬ (0 : Int) = (0 : Int) from c_9) (by decide)) (fun _ => ?_)
    refine f_aln 1 rfl hL1 rfl ?_
    refine f_iln 3 rfl hL1 rfl ?_
    refine f_iln 4 rfl hL1 rfl ?_
    refine m_k1 (show h_M 178 [.ref 55, fi (y), fi (k)] m (some (fi (0))) m from by have z := t178 (m := m) y1 k1; rw [h2] at z; exact z) hw1 hm1 rfl rfl rfl (m_ar so55 hw1 rfl) rfl (fun hc2 hw2 hm2 => ?_)
    refine f_if rfl (by decide) (fun _ => ?_) (fun c_9 => absurd (show (0 : Int) = (0 : Int) from (by decide)) c_9)
    refine f_s [fi (0)] rfl rfl ?_
    refine f_ist [(8, fi (0)), (7, fi (0)), (0, .ref 55), (1, fi (x)), (2, fi (y)), (3, fi (k)), (4, fi (a)), (5, fi (b)), (6, fi (0))] rfl (by decide) hL1 rfl (fun L2 hL2 => ?_)
    refine f_il 8 rfl hL2 rfl ?_
    refine f_if rfl (by decide) (fun _ => ?_) (fun c_9 => absurd (show (0 : Int) = (0 : Int) from (by decide)) c_9)
    refine f_il 0 rfl hL2 rfl ?_
    refine f_ist [(9, fi (0)), (8, fi (0)), (7, fi (0)), (0, .ref 55), (1, fi (x)), (2, fi (y)), (3, fi (k)), (4, fi (a)), (5, fi (b)), (6, fi (0))] rfl (by decide) hL2 rfl (fun L3 hL3 => ?_)
    refine f_il 9 rfl hL3 rfl ?_
    refine f_if rfl (by decide) (fun _ => ?_) (fun c_9 => absurd (show (0 : Int) = (0 : Int) from (by decide)) c_9)
    refine f_il 8 rfl hL3 rfl ?_
    refine f_ist [(10, fi (b)), (9, fi (0)), (8, fi (0)), (7, fi (0)), (0, .ref 55), (1, fi (x)), (2, fi (y)), (3, fi (k)), (4, fi (a)), (5, fi (b)), (6, fi (0))] rfl (by decide) hL3 rfl (fun L4 hL4 => ?_)
    refine f_il 1 rfl hL4 rfl ?_
    refine f_if rfl (by decide) (fun _ => ?_) (fun c_9 => absurd (show (0 : Int) = (0 : Int) from (by decide)) c_9)
    refine f_il 0 rfl hL4 rfl ?_
    refine f_if rfl (by omega) (fun c9 => ?_) (fun c9 => ?_)
    · have c9 : (b : Int) ≤ (0 : Int) := c9
      refine f_s [fi (0)] rfl rfl ?_
      exact f_ret1 rfl ⟨by rw [show g2 w false false a b = 0 from gB_z (show (false && (decide (a < b) || !false)) = false by rw [decide_eq_true (by omega)] <;> rfl) (by omega)], hw2, hm2⟩
    · have c9 : ¬ ((b : Int) ≤ (0 : Int)) := c9
      refine f_s [fi (-1)] rfl rfl ?_
      refine f_goto rfl ?_
      exact f_ret1 rfl ⟨by rw [show g2 w false false a b = -1 from gB_p (show (false && (decide (a < b) || !false)) = false by rw [decide_eq_true (by omega)] <;> rfl) (by omega)], hw2, hm2⟩
  · have c0 : ¬ ((a : Int) < (b : Int)) := c0
    refine f_aln 0 rfl hL rfl ?_
    refine f_iln 1 rfl hL rfl ?_
    refine f_iln 3 rfl hL rfl ?_
    refine m_k1 (show h_M 178 [.ref 55, fi (x), fi (k)] m (some (fi (0))) m from by have z := t178 (m := m) x1 k1; rw [h1] at z; exact z) hw hm rfl rfl rfl (m_ar so55 hw rfl) rfl (fun hc3 hw3 hm3 => ?_)
    refine f_goto rfl ?_
    refine f_ist [(7, fi (0)), (0, .ref 55), (1, fi (x)), (2, fi (y)), (3, fi (k)), (4, fi (a)), (5, fi (b)), (6, fi (0))] rfl (by decide) hL rfl (fun L5 hL5 => ?_)
    refine f_il 0 rfl hL5 rfl ?_
    refine f_if rfl (by decide) (fun c_9 => absurd (show ¬ (0 : Int) = (0 : Int) from c_9) (by decide)) (fun _ => ?_)
    refine f_aln 1 rfl hL5 rfl ?_
    refine f_iln 3 rfl hL5 rfl ?_
    refine f_iln 4 rfl hL5 rfl ?_
    refine m_k1 (show h_M 178 [.ref 55, fi (y), fi (k)] m (some (fi (0))) m from by have z := t178 (m := m) y1 k1; rw [h2] at z; exact z) hw3 hm3 rfl rfl rfl (m_ar so55 hw3 rfl) rfl (fun hc4 hw4 hm4 => ?_)
    refine f_if rfl (by decide) (fun _ => ?_) (fun c_9 => absurd (show (0 : Int) = (0 : Int) from (by decide)) c_9)
    refine f_s [fi (0)] rfl rfl ?_
    refine f_ist [(8, fi (0)), (7, fi (0)), (0, .ref 55), (1, fi (x)), (2, fi (y)), (3, fi (k)), (4, fi (a)), (5, fi (b)), (6, fi (0))] rfl (by decide) hL5 rfl (fun L6 hL6 => ?_)
    refine f_il 8 rfl hL6 rfl ?_
    refine f_if rfl (by decide) (fun _ => ?_) (fun c_9 => absurd (show (0 : Int) = (0 : Int) from (by decide)) c_9)
    refine f_il 0 rfl hL6 rfl ?_
    refine f_ist [(9, fi (0)), (8, fi (0)), (7, fi (0)), (0, .ref 55), (1, fi (x)), (2, fi (y)), (3, fi (k)), (4, fi (a)), (5, fi (b)), (6, fi (0))] rfl (by decide) hL6 rfl (fun L7 hL7 => ?_)
    refine f_il 9 rfl hL7 rfl ?_
    refine f_if rfl (by decide) (fun _ => ?_) (fun c_9 => absurd (show (0 : Int) = (0 : Int) from (by decide)) c_9)
    refine f_il 8 rfl hL7 rfl ?_
    refine f_ist [(10, fi (b)), (9, fi (0)), (8, fi (0)), (7, fi (0)), (0, .ref 55), (1, fi (x)), (2, fi (y)), (3, fi (k)), (4, fi (a)), (5, fi (b)), (6, fi (0))] rfl (by decide) hL7 rfl (fun L8 hL8 => ?_)
    refine f_il 1 rfl hL8 rfl ?_
    refine f_if rfl (by decide) (fun _ => ?_) (fun c_9 => absurd (show (0 : Int) = (0 : Int) from (by decide)) c_9)
    refine f_il 0 rfl hL8 rfl ?_
    refine f_if rfl (by omega) (fun c9 => ?_) (fun c9 => ?_)
    · have c9 : (b : Int) ≤ (0 : Int) := c9
      refine f_s [fi (0)] rfl rfl ?_
      exact f_ret1 rfl ⟨by rw [show g2 w false false a b = 0 from gB_z (show (false && (decide (a < b) || !false)) = false by rw [decide_eq_false (by omega)] <;> rfl) (by omega)], hw4, hm4⟩
    · have c9 : ¬ ((b : Int) ≤ (0 : Int)) := c9
      refine f_s [fi (-1)] rfl rfl ?_
      refine f_goto rfl ?_
      exact f_ret1 rfl ⟨by rw [show g2 w false false a b = -1 from gB_p (show (false && (decide (a < b) || !false)) = false by rw [decide_eq_false (by omega)] <;> rfl) (by omega)], hw4, hm4⟩)
theorem t179_0 {m : Nat → Nat → Int} {a : Int} (ra : 0 ≤ a ∧ a ≤ 4) {b : Int} (rb : 0 ≤ b ∧ b ≤ 4) {x y k : Int} (x1 : 0 ≤ x ∧ x < 5) (y1 : 0 ≤ y ∧ y < 5) (k1 : 0 ≤ k ∧ k < 4) {w : Int} {f1 f2 : Bool} (hwv : 0 ≤ w ∧ w ≤ 9) (h0 : m 57 (k).toNat = w) (h1 : decide (¬ iA (iR (m 61 16) (x)) (1) = 1 ∧ iA (iR (m 60 (x).toNat) (k)) (1) = 1) = f1) (h2 : decide (¬ iA (iR (m 61 16) (y)) (1) = 1 ∧ iA (iR (m 60 (y).toNat) (k)) (1) = 1) = f2) : h_M 179 [.ref 55, fi (x), fi (y), fi (k), fi (a), fi (b), fi (0)] m (some (fi (g2 w f1 f2 a b))) m := by
  cases f1 <;> cases f2
  · exact t179_000 ra rb x1 y1 k1 hwv h0 h1 h2
  · exact t179_001 ra rb x1 y1 k1 hwv h0 h1 h2
  · exact t179_010 ra rb x1 y1 k1 hwv h0 h1 h2
  · exact t179_011 ra rb x1 y1 k1 hwv h0 h1 h2
set_option maxHeartbeats 1000000 in
theorem t180 {m : Nat → Nat → Int} {a : Int} (ra : 0 ≤ a ∧ a ≤ 4) {b : Int} (rb : 0 ≤ b ∧ b ≤ 4) {x y k : Int} (x1 : 0 ≤ x ∧ x < 5) (y1 : 0 ≤ y ∧ y < 5) (k1 : 0 ≤ k ∧ k < 4) {w : Int} {f1 f2 : Bool} (hwv : 0 ≤ w ∧ w ≤ 9) (h0 : m 57 (k).toNat = w) (h1 : decide (¬ iA (iR (m 61 16) (x)) (1) = 1 ∧ iA (iR (m 60 (x).toNat) (k)) (1) = 1) = f1) (h2 : decide (¬ iA (iR (m 61 16) (y)) (1) = 1 ∧ iA (iR (m 60 (y).toNat) (k)) (1) = 1) = f2) : h_M 180 [.ref 55, fi (x), fi (y), fi (k), fi (a), fi (b)] m (some (fi (bI (rR0 w f1 f2 a b)))) m := h_M_of (R := ev_r180) rfl (fun hc hw hm => by
  have hL : f_L (lv_args 0 [.ref 55, fi (x), fi (y), fi (k), fi (a), fi (b)]) [(0, .ref 55), (1, fi (x)), (2, fi (y)), (3, fi (k)), (4, fi (a)), (5, fi (b))] := f_L_of rfl
  generalize lv_args 0 [.ref 55, fi (x), fi (y), fi (k), fi (a), fi (b)] = L at hL
  show x_W none (2, 0, 8, 5, 11, 4, 95, 0, 0, ev_t180) 0 L [] hc 0 0 _
  have hR := gi_R hm
  have hK5_0 : ∀ (hc : ev_H) (L : ev_L), y_in yGw hc → gi hc = m → f_L L [(7, fi (5)), (6, fi (0)), (0, .ref 55), (1, fi (x)), (2, fi (y)), (3, fi (k)), (4, fi (a)), (5, fi (b))] → x_W none (2, 0, 8, 5, 11, 4, 95, 0, 0, ev_t180) 6 L [] hc 0 0 (fun r' h' => r' = some (fi (0)) ∧ y_in yGw h' ∧ gi h' = m) := fun hc L hw hm hL => by
    refine f_il 0 rfl hL rfl ?_
    refine f_s [fi (5), fi (5)] rfl rfl ?_
    refine f_ic rfl (by decide) (by decide) (fun _ => ?_) (fun c_9 => absurd (show (5 : Int) ≤ (5 : Int) from (by decide)) c_9)
    refine f_il 1 rfl hL rfl ?_
    exact f_ret2 rfl (Or.inl rfl) ⟨rfl, hw, hm⟩
  have hK5_1 : ∀ (hc : ev_H) (L : ev_L), y_in yGw hc → gi hc = m → f_L L [(7, fi (5)), (6, fi (1)), (0, .ref 55), (1, fi (x)), (2, fi (y)), (3, fi (k)), (4, fi (a)), (5, fi (b))] → x_W none (2, 0, 8, 5, 11, 4, 95, 0, 0, ev_t180) 6 L [] hc 0 0 (fun r' h' => r' = some (fi (bI (rR5 w f1 f2 a b))) ∧ y_in yGw h' ∧ gi h' = m) := fun hc L hw hm hL => by
    refine f_il 0 rfl hL rfl ?_
    refine f_s [fi (5), fi (5)] rfl rfl ?_
    refine f_ic rfl (by decide) (by decide) (fun _ => ?_) (fun c_9 => absurd (show (5 : Int) ≤ (5 : Int) from (by decide)) c_9)
    refine f_il 1 rfl hL rfl ?_
    exact f_ret2 rfl (Or.inr rfl) ⟨rfl, hw, hm⟩
  have hK4_0 : ∀ (hc : ev_H) (L : ev_L), y_in yGw hc → gi hc = m → f_L L [(7, fi (4)), (6, fi (0)), (0, .ref 55), (1, fi (x)), (2, fi (y)), (3, fi (k)), (4, fi (a)), (5, fi (b))] → x_W none (2, 0, 8, 5, 11, 4, 95, 0, 0, ev_t180) 6 L [] hc 0 0 (fun r' h' => r' = some (fi (0)) ∧ y_in yGw h' ∧ gi h' = m) := fun hc L hw hm hL => by
    refine f_il 0 rfl hL rfl ?_
    refine f_s [fi (5), fi (4)] rfl rfl ?_
    refine f_ic rfl (by decide) (by decide) (fun c_9 => absurd (show (5 : Int) ≤ (4 : Int) from c_9) (by decide)) (fun _ => ?_)
    refine f_il 1 rfl hL rfl ?_
    refine f_if rfl (by decide) (fun _ => ?_) (fun c_9 => absurd (show (0 : Int) = (0 : Int) from (by decide)) c_9)
    refine f_s [fi (0)] rfl rfl ?_
    refine f_ist [(6, fi (0)), (7, fi (4)), (0, .ref 55), (1, fi (x)), (2, fi (y)), (3, fi (k)), (4, fi (a)), (5, fi (b))] rfl (by decide) hL rfl (fun L1 hL1 => ?_)
    refine f_il 0 rfl hL1 rfl ?_
    refine f_if rfl (by decide) (fun _ => ?_) (fun c_9 => absurd (show (0 : Int) = (0 : Int) from (by decide)) c_9)
    refine f_s [fi (0)] rfl rfl ?_
    refine f_ist [(6, fi (0)), (7, fi (4)), (0, .ref 55), (1, fi (x)), (2, fi (y)), (3, fi (k)), (4, fi (a)), (5, fi (b))] rfl (by decide) hL1 rfl (fun L2 hL2 => ?_)
    refine f_inc 1 [(7, fi (5)), (6, fi (0)), (0, .ref 55), (1, fi (x)), (2, fi (y)), (3, fi (k)), (4, fi (a)), (5, fi (b))] rfl (by decide) hL2 rfl rfl (fun L3 hL3 => ?_)
    refine f_goto rfl ?_
    exact hK5_0 hc _ hw hm (hL3.sel [0, 1, 2, 3, 4, 5, 6, 7] rfl)
  have hK4_1 : ∀ (hc : ev_H) (L : ev_L), y_in yGw hc → gi hc = m → f_L L [(7, fi (4)), (6, fi (1)), (0, .ref 55), (1, fi (x)), (2, fi (y)), (3, fi (k)), (4, fi (a)), (5, fi (b))] → x_W none (2, 0, 8, 5, 11, 4, 95, 0, 0, ev_t180) 6 L [] hc 0 0 (fun r' h' => r' = some (fi (bI (rR4 w f1 f2 a b))) ∧ y_in yGw h' ∧ gi h' = m) := fun hc L hw hm hL => by
    refine f_il 0 rfl hL rfl ?_
    refine f_s [fi (5), fi (4)] rfl rfl ?_
    refine f_ic rfl (by decide) (by decide) (fun c_9 => absurd (show (5 : Int) ≤ (4 : Int) from c_9) (by decide)) (fun _ => ?_)
    refine f_il 1 rfl hL rfl ?_
    refine f_if rfl (by decide) (fun c_9 => absurd (show (1 : Int) = (0 : Int) from c_9) (by decide)) (fun _ => ?_)
    refine f_aln 2 rfl hL rfl ?_
    refine f_iln 3 rfl hL rfl ?_
    refine f_iln 4 rfl hL rfl ?_
    refine f_iln 5 rfl hL rfl ?_
    refine f_il 0 rfl hL rfl ?_
    refine f_il 7 rfl hL rfl ?_
    refine f_s [fi (1), fi (b), fi (4), fi (k), fi (y), fi (x), .ref 55] rfl rfl ?_
    refine m_k1 (t179_1 (a := 4) (b := b) (by decide) rb x1 y1 k1 hwv h0 h1 h2) hw hm rfl rfl rfl (m_ar so55 hw rfl) rfl (fun hc1 hw1 hm1 => ?_)
    refine f_aln 2 rfl hL rfl ?_
    refine f_iln 3 rfl hL rfl ?_
    refine f_iln 4 rfl hL rfl ?_
    refine f_iln 5 rfl hL rfl ?_
    refine f_il 6 rfl hL rfl ?_
    refine f_il 7 rfl hL rfl ?_
    refine f_s [fi (1), fi (b), fi (a), fi (k), fi (y), fi (x), .ref 55, fi (g1 w f1 f2 4 b)] rfl rfl ?_
    refine m_k1 (t179_1 (a := a) (b := b) ra rb x1 y1 k1 hwv h0 h1 h2) hw1 hm1 rfl rfl rfl (m_ar so55 hw1 rfl) rfl (fun hc2 hw2 hm2 => ?_)
    refine f_ic rfl (g1_r hwv (by decide)) (g1_r hwv ra) (fun c1 => ?_) (fun c1 => ?_)
    · have c1 : (g1 w f1 f2 a b : Int) < (g1 w f1 f2 4 b : Int) := c1
      refine f_s [fi (0)] rfl rfl ?_
      refine f_ist [(6, fi (0)), (7, fi (4)), (0, .ref 55), (1, fi (x)), (2, fi (y)), (3, fi (k)), (4, fi (a)), (5, fi (b))] rfl (by decide) hL rfl (fun L4 hL4 => ?_)
      refine f_il 0 rfl hL4 rfl ?_
      refine f_if rfl (by decide) (fun _ => ?_) (fun c_9 => absurd (show (0 : Int) = (0 : Int) from (by decide)) c_9)
      refine f_s [fi (0)] rfl rfl ?_
      refine f_ist [(6, fi (0)), (7, fi (4)), (0, .ref 55), (1, fi (x)), (2, fi (y)), (3, fi (k)), (4, fi (a)), (5, fi (b))] rfl (by decide) hL4 rfl (fun L5 hL5 => ?_)
      refine f_inc 1 [(7, fi (5)), (6, fi (0)), (0, .ref 55), (1, fi (x)), (2, fi (y)), (3, fi (k)), (4, fi (a)), (5, fi (b))] rfl (by decide) hL5 rfl rfl (fun L6 hL6 => ?_)
      refine f_goto rfl ?_
      rw [show rR4 w f1 f2 a b = (rT w f1 f2 a b 4 && rR5 w f1 f2 a b) from rfl, show rT w f1 f2 a b 4 = false from decide_eq_false (by omega), Bool.false_and]
      exact hK5_0 hc2 _ hw2 hm2 (hL6.sel [0, 1, 2, 3, 4, 5, 6, 7] rfl)
    · have c1 : ¬ ((g1 w f1 f2 a b : Int) < (g1 w f1 f2 4 b : Int)) := c1
      refine f_s [fi (1)] rfl rfl ?_
      refine f_goto rfl ?_
      refine f_ist [(6, fi (1)), (7, fi (4)), (0, .ref 55), (1, fi (x)), (2, fi (y)), (3, fi (k)), (4, fi (a)), (5, fi (b))] rfl (by decide) hL rfl (fun L7 hL7 => ?_)
      refine f_il 0 rfl hL7 rfl ?_
      refine f_if rfl (by decide) (fun c_9 => absurd (show (1 : Int) = (0 : Int) from c_9) (by decide)) (fun _ => ?_)
      refine f_aln 2 rfl hL7 rfl ?_
      refine f_iln 3 rfl hL7 rfl ?_
      refine f_iln 4 rfl hL7 rfl ?_
      refine f_iln 5 rfl hL7 rfl ?_
      refine f_il 6 rfl hL7 rfl ?_
      refine f_il 1 rfl hL7 rfl ?_
      refine f_s [fi (0), fi (4), fi (a), fi (k), fi (y), fi (x), .ref 55] rfl rfl ?_
      refine m_k1 (t179_0 (a := a) (b := 4) ra (by decide) x1 y1 k1 hwv h0 h1 h2) hw2 hm2 rfl rfl rfl (m_ar so55 hw2 rfl) rfl (fun hc3 hw3 hm3 => ?_)
      refine f_aln 2 rfl hL7 rfl ?_
      refine f_iln 3 rfl hL7 rfl ?_
      refine f_iln 4 rfl hL7 rfl ?_
      refine f_iln 5 rfl hL7 rfl ?_
      refine f_il 6 rfl hL7 rfl ?_
      refine f_il 7 rfl hL7 rfl ?_
      refine f_s [fi (0), fi (b), fi (a), fi (k), fi (y), fi (x), .ref 55, fi (g2 w f1 f2 a 4)] rfl rfl ?_
      refine m_k1 (t179_0 (a := a) (b := b) ra rb x1 y1 k1 hwv h0 h1 h2) hw3 hm3 rfl rfl rfl (m_ar so55 hw3 rfl) rfl (fun hc4 hw4 hm4 => ?_)
      refine f_ic rfl (g2_r hwv (by decide)) (g2_r hwv rb) (fun c2 => ?_) (fun c2 => ?_)
      · have c2 : (g2 w f1 f2 a b : Int) < (g2 w f1 f2 a 4 : Int) := c2
        refine f_s [fi (0)] rfl rfl ?_
        refine f_ist [(6, fi (0)), (7, fi (4)), (0, .ref 55), (1, fi (x)), (2, fi (y)), (3, fi (k)), (4, fi (a)), (5, fi (b))] rfl (by decide) hL7 rfl (fun L8 hL8 => ?_)
        refine f_inc 1 [(7, fi (5)), (6, fi (0)), (0, .ref 55), (1, fi (x)), (2, fi (y)), (3, fi (k)), (4, fi (a)), (5, fi (b))] rfl (by decide) hL8 rfl rfl (fun L9 hL9 => ?_)
        refine f_goto rfl ?_
        rw [show rR4 w f1 f2 a b = (rT w f1 f2 a b 4 && rR5 w f1 f2 a b) from rfl, show rT w f1 f2 a b 4 = false from decide_eq_false (by omega), Bool.false_and]
        exact hK5_0 hc4 _ hw4 hm4 (hL9.sel [0, 1, 2, 3, 4, 5, 6, 7] rfl)
      · have c2 : ¬ ((g2 w f1 f2 a b : Int) < (g2 w f1 f2 a 4 : Int)) := c2
        refine f_s [fi (1)] rfl rfl ?_
        refine f_goto rfl ?_
        refine f_ist [(6, fi (1)), (7, fi (4)), (0, .ref 55), (1, fi (x)), (2, fi (y)), (3, fi (k)), (4, fi (a)), (5, fi (b))] rfl (by decide) hL7 rfl (fun L10 hL10 => ?_)
        refine f_inc 1 [(7, fi (5)), (6, fi (1)), (0, .ref 55), (1, fi (x)), (2, fi (y)), (3, fi (k)), (4, fi (a)), (5, fi (b))] rfl (by decide) hL10 rfl rfl (fun L11 hL11 => ?_)
        refine f_goto rfl ?_
        rw [show rR4 w f1 f2 a b = (rT w f1 f2 a b 4 && rR5 w f1 f2 a b) from rfl, show rT w f1 f2 a b 4 = true from decide_eq_true ⟨by omega, by omega⟩, Bool.true_and]
        exact hK5_1 hc4 _ hw4 hm4 (hL11.sel [0, 1, 2, 3, 4, 5, 6, 7] rfl)
  have hK3_0 : ∀ (hc : ev_H) (L : ev_L), y_in yGw hc → gi hc = m → f_L L [(7, fi (3)), (6, fi (0)), (0, .ref 55), (1, fi (x)), (2, fi (y)), (3, fi (k)), (4, fi (a)), (5, fi (b))] → x_W none (2, 0, 8, 5, 11, 4, 95, 0, 0, ev_t180) 6 L [] hc 0 0 (fun r' h' => r' = some (fi (0)) ∧ y_in yGw h' ∧ gi h' = m) := fun hc L hw hm hL => by
    refine f_il 0 rfl hL rfl ?_
    refine f_s [fi (5), fi (3)] rfl rfl ?_
    refine f_ic rfl (by decide) (by decide) (fun c_9 => absurd (show (5 : Int) ≤ (3 : Int) from c_9) (by decide)) (fun _ => ?_)
    refine f_il 1 rfl hL rfl ?_
    refine f_if rfl (by decide) (fun _ => ?_) (fun c_9 => absurd (show (0 : Int) = (0 : Int) from (by decide)) c_9)
    refine f_s [fi (0)] rfl rfl ?_
    refine f_ist [(6, fi (0)), (7, fi (3)), (0, .ref 55), (1, fi (x)), (2, fi (y)), (3, fi (k)), (4, fi (a)), (5, fi (b))] rfl (by decide) hL rfl (fun L12 hL12 => ?_)
    refine f_il 0 rfl hL12 rfl ?_
    refine f_if rfl (by decide) (fun _ => ?_) (fun c_9 => absurd (show (0 : Int) = (0 : Int) from (by decide)) c_9)
    refine f_s [fi (0)] rfl rfl ?_
    refine f_ist [(6, fi (0)), (7, fi (3)), (0, .ref 55), (1, fi (x)), (2, fi (y)), (3, fi (k)), (4, fi (a)), (5, fi (b))] rfl (by decide) hL12 rfl (fun L13 hL13 => ?_)
    refine f_inc 1 [(7, fi (4)), (6, fi (0)), (0, .ref 55), (1, fi (x)), (2, fi (y)), (3, fi (k)), (4, fi (a)), (5, fi (b))] rfl (by decide) hL13 rfl rfl (fun L14 hL14 => ?_)
    refine f_goto rfl ?_
    exact hK4_0 hc _ hw hm (hL14.sel [0, 1, 2, 3, 4, 5, 6, 7] rfl)
  have hK3_1 : ∀ (hc : ev_H) (L : ev_L), y_in yGw hc → gi hc = m → f_L L [(7, fi (3)), (6, fi (1)), (0, .ref 55), (1, fi (x)), (2, fi (y)), (3, fi (k)), (4, fi (a)), (5, fi (b))] → x_W none (2, 0, 8, 5, 11, 4, 95, 0, 0, ev_t180) 6 L [] hc 0 0 (fun r' h' => r' = some (fi (bI (rR3 w f1 f2 a b))) ∧ y_in yGw h' ∧ gi h' = m) := fun hc L hw hm hL => by
    refine f_il 0 rfl hL rfl ?_
    refine f_s [fi (5), fi (3)] rfl rfl ?_
    refine f_ic rfl (by decide) (by decide) (fun c_9 => absurd (show (5 : Int) ≤ (3 : Int) from c_9) (by decide)) (fun _ => ?_)
    refine f_il 1 rfl hL rfl ?_
    refine f_if rfl (by decide) (fun c_9 => absurd (show (1 : Int) = (0 : Int) from c_9) (by decide)) (fun _ => ?_)
    refine f_aln 2 rfl hL rfl ?_
    refine f_iln 3 rfl hL rfl ?_
    refine f_iln 4 rfl hL rfl ?_
    refine f_iln 5 rfl hL rfl ?_
    refine f_il 0 rfl hL rfl ?_
    refine f_il 7 rfl hL rfl ?_
    refine f_s [fi (1), fi (b), fi (3), fi (k), fi (y), fi (x), .ref 55] rfl rfl ?_
    refine m_k1 (t179_1 (a := 3) (b := b) (by decide) rb x1 y1 k1 hwv h0 h1 h2) hw hm rfl rfl rfl (m_ar so55 hw rfl) rfl (fun hc5 hw5 hm5 => ?_)
    refine f_aln 2 rfl hL rfl ?_
    refine f_iln 3 rfl hL rfl ?_
    refine f_iln 4 rfl hL rfl ?_
    refine f_iln 5 rfl hL rfl ?_
    refine f_il 6 rfl hL rfl ?_
    refine f_il 7 rfl hL rfl ?_
    refine f_s [fi (1), fi (b), fi (a), fi (k), fi (y), fi (x), .ref 55, fi (g1 w f1 f2 3 b)] rfl rfl ?_
    refine m_k1 (t179_1 (a := a) (b := b) ra rb x1 y1 k1 hwv h0 h1 h2) hw5 hm5 rfl rfl rfl (m_ar so55 hw5 rfl) rfl (fun hc6 hw6 hm6 => ?_)
    refine f_ic rfl (g1_r hwv (by decide)) (g1_r hwv ra) (fun c1 => ?_) (fun c1 => ?_)
    · have c1 : (g1 w f1 f2 a b : Int) < (g1 w f1 f2 3 b : Int) := c1
      refine f_s [fi (0)] rfl rfl ?_
      refine f_ist [(6, fi (0)), (7, fi (3)), (0, .ref 55), (1, fi (x)), (2, fi (y)), (3, fi (k)), (4, fi (a)), (5, fi (b))] rfl (by decide) hL rfl (fun L15 hL15 => ?_)
      refine f_il 0 rfl hL15 rfl ?_
      refine f_if rfl (by decide) (fun _ => ?_) (fun c_9 => absurd (show (0 : Int) = (0 : Int) from (by decide)) c_9)
      refine f_s [fi (0)] rfl rfl ?_
      refine f_ist [(6, fi (0)), (7, fi (3)), (0, .ref 55), (1, fi (x)), (2, fi (y)), (3, fi (k)), (4, fi (a)), (5, fi (b))] rfl (by decide) hL15 rfl (fun L16 hL16 => ?_)
      refine f_inc 1 [(7, fi (4)), (6, fi (0)), (0, .ref 55), (1, fi (x)), (2, fi (y)), (3, fi (k)), (4, fi (a)), (5, fi (b))] rfl (by decide) hL16 rfl rfl (fun L17 hL17 => ?_)
      refine f_goto rfl ?_
      rw [show rR3 w f1 f2 a b = (rT w f1 f2 a b 3 && rR4 w f1 f2 a b) from rfl, show rT w f1 f2 a b 3 = false from decide_eq_false (by omega), Bool.false_and]
      exact hK4_0 hc6 _ hw6 hm6 (hL17.sel [0, 1, 2, 3, 4, 5, 6, 7] rfl)
    · have c1 : ¬ ((g1 w f1 f2 a b : Int) < (g1 w f1 f2 3 b : Int)) := c1
      refine f_s [fi (1)] rfl rfl ?_
      refine f_goto rfl ?_
      refine f_ist [(6, fi (1)), (7, fi (3)), (0, .ref 55), (1, fi (x)), (2, fi (y)), (3, fi (k)), (4, fi (a)), (5, fi (b))] rfl (by decide) hL rfl (fun L18 hL18 => ?_)
      refine f_il 0 rfl hL18 rfl ?_
      refine f_if rfl (by decide) (fun c_9 => absurd (show (1 : Int) = (0 : Int) from c_9) (by decide)) (fun _ => ?_)
      refine f_aln 2 rfl hL18 rfl ?_
      refine f_iln 3 rfl hL18 rfl ?_
      refine f_iln 4 rfl hL18 rfl ?_
      refine f_iln 5 rfl hL18 rfl ?_
      refine f_il 6 rfl hL18 rfl ?_
      refine f_il 1 rfl hL18 rfl ?_
      refine f_s [fi (0), fi (3), fi (a), fi (k), fi (y), fi (x), .ref 55] rfl rfl ?_
      refine m_k1 (t179_0 (a := a) (b := 3) ra (by decide) x1 y1 k1 hwv h0 h1 h2) hw6 hm6 rfl rfl rfl (m_ar so55 hw6 rfl) rfl (fun hc7 hw7 hm7 => ?_)
      refine f_aln 2 rfl hL18 rfl ?_
      refine f_iln 3 rfl hL18 rfl ?_
      refine f_iln 4 rfl hL18 rfl ?_
      refine f_iln 5 rfl hL18 rfl ?_
      refine f_il 6 rfl hL18 rfl ?_
      refine f_il 7 rfl hL18 rfl ?_
      refine f_s [fi (0), fi (b), fi (a), fi (k), fi (y), fi (x), .ref 55, fi (g2 w f1 f2 a 3)] rfl rfl ?_
      refine m_k1 (t179_0 (a := a) (b := b) ra rb x1 y1 k1 hwv h0 h1 h2) hw7 hm7 rfl rfl rfl (m_ar so55 hw7 rfl) rfl (fun hc8 hw8 hm8 => ?_)
      refine f_ic rfl (g2_r hwv (by decide)) (g2_r hwv rb) (fun c2 => ?_) (fun c2 => ?_)
      · have c2 : (g2 w f1 f2 a b : Int) < (g2 w f1 f2 a 3 : Int) := c2
        refine f_s [fi (0)] rfl rfl ?_
        refine f_ist [(6, fi (0)), (7, fi (3)), (0, .ref 55), (1, fi (x)), (2, fi (y)), (3, fi (k)), (4, fi (a)), (5, fi (b))] rfl (by decide) hL18 rfl (fun L19 hL19 => ?_)
        refine f_inc 1 [(7, fi (4)), (6, fi (0)), (0, .ref 55), (1, fi (x)), (2, fi (y)), (3, fi (k)), (4, fi (a)), (5, fi (b))] rfl (by decide) hL19 rfl rfl (fun L20 hL20 => ?_)
        refine f_goto rfl ?_
        rw [show rR3 w f1 f2 a b = (rT w f1 f2 a b 3 && rR4 w f1 f2 a b) from rfl, show rT w f1 f2 a b 3 = false from decide_eq_false (by omega), Bool.false_and]
        exact hK4_0 hc8 _ hw8 hm8 (hL20.sel [0, 1, 2, 3, 4, 5, 6, 7] rfl)
      · have c2 : ¬ ((g2 w f1 f2 a b : Int) < (g2 w f1 f2 a 3 : Int)) := c2
        refine f_s [fi (1)] rfl rfl ?_
        refine f_goto rfl ?_
        refine f_ist [(6, fi (1)), (7, fi (3)), (0, .ref 55), (1, fi (x)), (2, fi (y)), (3, fi (k)), (4, fi (a)), (5, fi (b))] rfl (by decide) hL18 rfl (fun L21 hL21 => ?_)
        refine f_inc 1 [(7, fi (4)), (6, fi (1)), (0, .ref 55), (1, fi (x)), (2, fi (y)), (3, fi (k)), (4, fi (a)), (5, fi (b))] rfl (by decide) hL21 rfl rfl (fun L22 hL22 => ?_)
        refine f_goto rfl ?_
        rw [show rR3 w f1 f2 a b = (rT w f1 f2 a b 3 && rR4 w f1 f2 a b) from rfl, show rT w f1 f2 a b 3 = true from decide_eq_true ⟨by omega, by omega⟩, Bool.true_and]
        exact hK4_1 hc8 _ hw8 hm8 (hL22.sel [0, 1, 2, 3, 4, 5, 6, 7] rfl)
  have hK2_0 : ∀ (hc : ev_H) (L : ev_L), y_in yGw hc → gi hc = m → f_L L [(7, fi (2)), (6, fi (0)), (0, .ref 55), (1, fi (x)), (2, fi (y)), (3, fi (k)), (4, fi (a)), (5, fi (b))] → x_W none (2, 0, 8, 5, 11, 4, 95, 0, 0, ev_t180) 6 L [] hc 0 0 (fun r' h' => r' = some (fi (0)) ∧ y_in yGw h' ∧ gi h' = m) := fun hc L hw hm hL => by
    refine f_il 0 rfl hL rfl ?_
    refine f_s [fi (5), fi (2)] rfl rfl ?_
    refine f_ic rfl (by decide) (by decide) (fun c_9 => absurd (show (5 : Int) ≤ (2 : Int) from c_9) (by decide)) (fun _ => ?_)
    refine f_il 1 rfl hL rfl ?_
    refine f_if rfl (by decide) (fun _ => ?_) (fun c_9 => absurd (show (0 : Int) = (0 : Int) from (by decide)) c_9)
    refine f_s [fi (0)] rfl rfl ?_
    refine f_ist [(6, fi (0)), (7, fi (2)), (0, .ref 55), (1, fi (x)), (2, fi (y)), (3, fi (k)), (4, fi (a)), (5, fi (b))] rfl (by decide) hL rfl (fun L23 hL23 => ?_)
    refine f_il 0 rfl hL23 rfl ?_
    refine f_if rfl (by decide) (fun _ => ?_) (fun c_9 => absurd (show (0 : Int) = (0 : Int) from (by decide)) c_9)
    refine f_s [fi (0)] rfl rfl ?_
    refine f_ist [(6, fi (0)), (7, fi (2)), (0, .ref 55), (1, fi (x)), (2, fi (y)), (3, fi (k)), (4, fi (a)), (5, fi (b))] rfl (by decide) hL23 rfl (fun L24 hL24 => ?_)
    refine f_inc 1 [(7, fi (3)), (6, fi (0)), (0, .ref 55), (1, fi (x)), (2, fi (y)), (3, fi (k)), (4, fi (a)), (5, fi (b))] rfl (by decide) hL24 rfl rfl (fun L25 hL25 => ?_)
    refine f_goto rfl ?_
    exact hK3_0 hc _ hw hm (hL25.sel [0, 1, 2, 3, 4, 5, 6, 7] rfl)
  have hK2_1 : ∀ (hc : ev_H) (L : ev_L), y_in yGw hc → gi hc = m → f_L L [(7, fi (2)), (6, fi (1)), (0, .ref 55), (1, fi (x)), (2, fi (y)), (3, fi (k)), (4, fi (a)), (5, fi (b))] → x_W none (2, 0, 8, 5, 11, 4, 95, 0, 0, ev_t180) 6 L [] hc 0 0 (fun r' h' => r' = some (fi (bI (rR2 w f1 f2 a b))) ∧ y_in yGw h' ∧ gi h' = m) := fun hc L hw hm hL => by
    refine f_il 0 rfl hL rfl ?_
    refine f_s [fi (5), fi (2)] rfl rfl ?_
    refine f_ic rfl (by decide) (by decide) (fun c_9 => absurd (show (5 : Int) ≤ (2 : Int) from c_9) (by decide)) (fun _ => ?_)
    refine f_il 1 rfl hL rfl ?_
    refine f_if rfl (by decide) (fun c_9 => absurd (show (1 : Int) = (0 : Int) from c_9) (by decide)) (fun _ => ?_)
    refine f_aln 2 rfl hL rfl ?_
    refine f_iln 3 rfl hL rfl ?_
    refine f_iln 4 rfl hL rfl ?_
    refine f_iln 5 rfl hL rfl ?_
    refine f_il 0 rfl hL rfl ?_
    refine f_il 7 rfl hL rfl ?_
    refine f_s [fi (1), fi (b), fi (2), fi (k), fi (y), fi (x), .ref 55] rfl rfl ?_
    refine m_k1 (t179_1 (a := 2) (b := b) (by decide) rb x1 y1 k1 hwv h0 h1 h2) hw hm rfl rfl rfl (m_ar so55 hw rfl) rfl (fun hc9 hw9 hm9 => ?_)
    refine f_aln 2 rfl hL rfl ?_
    refine f_iln 3 rfl hL rfl ?_
    refine f_iln 4 rfl hL rfl ?_
    refine f_iln 5 rfl hL rfl ?_
    refine f_il 6 rfl hL rfl ?_
    refine f_il 7 rfl hL rfl ?_
    refine f_s [fi (1), fi (b), fi (a), fi (k), fi (y), fi (x), .ref 55, fi (g1 w f1 f2 2 b)] rfl rfl ?_
    refine m_k1 (t179_1 (a := a) (b := b) ra rb x1 y1 k1 hwv h0 h1 h2) hw9 hm9 rfl rfl rfl (m_ar so55 hw9 rfl) rfl (fun hc10 hw10 hm10 => ?_)
    refine f_ic rfl (g1_r hwv (by decide)) (g1_r hwv ra) (fun c1 => ?_) (fun c1 => ?_)
    · have c1 : (g1 w f1 f2 a b : Int) < (g1 w f1 f2 2 b : Int) := c1
      refine f_s [fi (0)] rfl rfl ?_
      refine f_ist [(6, fi (0)), (7, fi (2)), (0, .ref 55), (1, fi (x)), (2, fi (y)), (3, fi (k)), (4, fi (a)), (5, fi (b))] rfl (by decide) hL rfl (fun L26 hL26 => ?_)
      refine f_il 0 rfl hL26 rfl ?_
      refine f_if rfl (by decide) (fun _ => ?_) (fun c_9 => absurd (show (0 : Int) = (0 : Int) from (by decide)) c_9)
      refine f_s [fi (0)] rfl rfl ?_
      refine f_ist [(6, fi (0)), (7, fi (2)), (0, .ref 55), (1, fi (x)), (2, fi (y)), (3, fi (k)), (4, fi (a)), (5, fi (b))] rfl (by decide) hL26 rfl (fun L27 hL27 => ?_)
      refine f_inc 1 [(7, fi (3)), (6, fi (0)), (0, .ref 55), (1, fi (x)), (2, fi (y)), (3, fi (k)), (4, fi (a)), (5, fi (b))] rfl (by decide) hL27 rfl rfl (fun L28 hL28 => ?_)
      refine f_goto rfl ?_
      rw [show rR2 w f1 f2 a b = (rT w f1 f2 a b 2 && rR3 w f1 f2 a b) from rfl, show rT w f1 f2 a b 2 = false from decide_eq_false (by omega), Bool.false_and]
      exact hK3_0 hc10 _ hw10 hm10 (hL28.sel [0, 1, 2, 3, 4, 5, 6, 7] rfl)
    · have c1 : ¬ ((g1 w f1 f2 a b : Int) < (g1 w f1 f2 2 b : Int)) := c1
      refine f_s [fi (1)] rfl rfl ?_
      refine f_goto rfl ?_
      refine f_ist [(6, fi (1)), (7, fi (2)), (0, .ref 55), (1, fi (x)), (2, fi (y)), (3, fi (k)), (4, fi (a)), (5, fi (b))] rfl (by decide) hL rfl (fun L29 hL29 => ?_)
      refine f_il 0 rfl hL29 rfl ?_
      refine f_if rfl (by decide) (fun c_9 => absurd (show (1 : Int) = (0 : Int) from c_9) (by decide)) (fun _ => ?_)
      refine f_aln 2 rfl hL29 rfl ?_
      refine f_iln 3 rfl hL29 rfl ?_
      refine f_iln 4 rfl hL29 rfl ?_
      refine f_iln 5 rfl hL29 rfl ?_
      refine f_il 6 rfl hL29 rfl ?_
      refine f_il 1 rfl hL29 rfl ?_
      refine f_s [fi (0), fi (2), fi (a), fi (k), fi (y), fi (x), .ref 55] rfl rfl ?_
      refine m_k1 (t179_0 (a := a) (b := 2) ra (by decide) x1 y1 k1 hwv h0 h1 h2) hw10 hm10 rfl rfl rfl (m_ar so55 hw10 rfl) rfl (fun hc11 hw11 hm11 => ?_)
      refine f_aln 2 rfl hL29 rfl ?_
      refine f_iln 3 rfl hL29 rfl ?_
      refine f_iln 4 rfl hL29 rfl ?_
      refine f_iln 5 rfl hL29 rfl ?_
      refine f_il 6 rfl hL29 rfl ?_
      refine f_il 7 rfl hL29 rfl ?_
      refine f_s [fi (0), fi (b), fi (a), fi (k), fi (y), fi (x), .ref 55, fi (g2 w f1 f2 a 2)] rfl rfl ?_
      refine m_k1 (t179_0 (a := a) (b := b) ra rb x1 y1 k1 hwv h0 h1 h2) hw11 hm11 rfl rfl rfl (m_ar so55 hw11 rfl) rfl (fun hc12 hw12 hm12 => ?_)
      refine f_ic rfl (g2_r hwv (by decide)) (g2_r hwv rb) (fun c2 => ?_) (fun c2 => ?_)
      · have c2 : (g2 w f1 f2 a b : Int) < (g2 w f1 f2 a 2 : Int) := c2
        refine f_s [fi (0)] rfl rfl ?_
        refine f_ist [(6, fi (0)), (7, fi (2)), (0, .ref 55), (1, fi (x)), (2, fi (y)), (3, fi (k)), (4, fi (a)), (5, fi (b))] rfl (by decide) hL29 rfl (fun L30 hL30 => ?_)
        refine f_inc 1 [(7, fi (3)), (6, fi (0)), (0, .ref 55), (1, fi (x)), (2, fi (y)), (3, fi (k)), (4, fi (a)), (5, fi (b))] rfl (by decide) hL30 rfl rfl (fun L31 hL31 => ?_)
        refine f_goto rfl ?_
        rw [show rR2 w f1 f2 a b = (rT w f1 f2 a b 2 && rR3 w f1 f2 a b) from rfl, show rT w f1 f2 a b 2 = false from decide_eq_false (by omega), Bool.false_and]
        exact hK3_0 hc12 _ hw12 hm12 (hL31.sel [0, 1, 2, 3, 4, 5, 6, 7] rfl)
      · have c2 : ¬ ((g2 w f1 f2 a b : Int) < (g2 w f1 f2 a 2 : Int)) := c2
        refine f_s [fi (1)] rfl rfl ?_
        refine f_goto rfl ?_
        refine f_ist [(6, fi (1)), (7, fi (2)), (0, .ref 55), (1, fi (x)), (2, fi (y)), (3, fi (k)), (4, fi (a)), (5, fi (b))] rfl (by decide) hL29 rfl (fun L32 hL32 => ?_)
        refine f_inc 1 [(7, fi (3)), (6, fi (1)), (0, .ref 55), (1, fi (x)), (2, fi (y)), (3, fi (k)), (4, fi (a)), (5, fi (b))] rfl (by decide) hL32 rfl rfl (fun L33 hL33 => ?_)
        refine f_goto rfl ?_
        rw [show rR2 w f1 f2 a b = (rT w f1 f2 a b 2 && rR3 w f1 f2 a b) from rfl, show rT w f1 f2 a b 2 = true from decide_eq_true ⟨by omega, by omega⟩, Bool.true_and]
        exact hK3_1 hc12 _ hw12 hm12 (hL33.sel [0, 1, 2, 3, 4, 5, 6, 7] rfl)
  have hK1_0 : ∀ (hc : ev_H) (L : ev_L), y_in yGw hc → gi hc = m → f_L L [(7, fi (1)), (6, fi (0)), (0, .ref 55), (1, fi (x)), (2, fi (y)), (3, fi (k)), (4, fi (a)), (5, fi (b))] → x_W none (2, 0, 8, 5, 11, 4, 95, 0, 0, ev_t180) 6 L [] hc 0 0 (fun r' h' => r' = some (fi (0)) ∧ y_in yGw h' ∧ gi h' = m) := fun hc L hw hm hL => by
    refine f_il 0 rfl hL rfl ?_
    refine f_s [fi (5), fi (1)] rfl rfl ?_
    refine f_ic rfl (by decide) (by decide) (fun c_9 => absurd (show (5 : Int) ≤ (1 : Int) from c_9) (by decide)) (fun _ => ?_)
    refine f_il 1 rfl hL rfl ?_
    refine f_if rfl (by decide) (fun _ => ?_) (fun c_9 => absurd (show (0 : Int) = (0 : Int) from (by decide)) c_9)
    refine f_s [fi (0)] rfl rfl ?_
    refine f_ist [(6, fi (0)), (7, fi (1)), (0, .ref 55), (1, fi (x)), (2, fi (y)), (3, fi (k)), (4, fi (a)), (5, fi (b))] rfl (by decide) hL rfl (fun L34 hL34 => ?_)
    refine f_il 0 rfl hL34 rfl ?_
    refine f_if rfl (by decide) (fun _ => ?_) (fun c_9 => absurd (show (0 : Int) = (0 : Int) from (by decide)) c_9)
    refine f_s [fi (0)] rfl rfl ?_
    refine f_ist [(6, fi (0)), (7, fi (1)), (0, .ref 55), (1, fi (x)), (2, fi (y)), (3, fi (k)), (4, fi (a)), (5, fi (b))] rfl (by decide) hL34 rfl (fun L35 hL35 => ?_)
    refine f_inc 1 [(7, fi (2)), (6, fi (0)), (0, .ref 55), (1, fi (x)), (2, fi (y)), (3, fi (k)), (4, fi (a)), (5, fi (b))] rfl (by decide) hL35 rfl rfl (fun L36 hL36 => ?_)
    refine f_goto rfl ?_
    exact hK2_0 hc _ hw hm (hL36.sel [0, 1, 2, 3, 4, 5, 6, 7] rfl)
  have hK1_1 : ∀ (hc : ev_H) (L : ev_L), y_in yGw hc → gi hc = m → f_L L [(7, fi (1)), (6, fi (1)), (0, .ref 55), (1, fi (x)), (2, fi (y)), (3, fi (k)), (4, fi (a)), (5, fi (b))] → x_W none (2, 0, 8, 5, 11, 4, 95, 0, 0, ev_t180) 6 L [] hc 0 0 (fun r' h' => r' = some (fi (bI (rR1 w f1 f2 a b))) ∧ y_in yGw h' ∧ gi h' = m) := fun hc L hw hm hL => by
    refine f_il 0 rfl hL rfl ?_
    refine f_s [fi (5), fi (1)] rfl rfl ?_
    refine f_ic rfl (by decide) (by decide) (fun c_9 => absurd (show (5 : Int) ≤ (1 : Int) from c_9) (by decide)) (fun _ => ?_)
    refine f_il 1 rfl hL rfl ?_
    refine f_if rfl (by decide) (fun c_9 => absurd (show (1 : Int) = (0 : Int) from c_9) (by decide)) (fun _ => ?_)
    refine f_aln 2 rfl hL rfl ?_
    refine f_iln 3 rfl hL rfl ?_
    refine f_iln 4 rfl hL rfl ?_
    refine f_iln 5 rfl hL rfl ?_
    refine f_il 0 rfl hL rfl ?_
    refine f_il 7 rfl hL rfl ?_
    refine f_s [fi (1), fi (b), fi (1), fi (k), fi (y), fi (x), .ref 55] rfl rfl ?_
    refine m_k1 (t179_1 (a := 1) (b := b) (by decide) rb x1 y1 k1 hwv h0 h1 h2) hw hm rfl rfl rfl (m_ar so55 hw rfl) rfl (fun hc13 hw13 hm13 => ?_)
    refine f_aln 2 rfl hL rfl ?_
    refine f_iln 3 rfl hL rfl ?_
    refine f_iln 4 rfl hL rfl ?_
    refine f_iln 5 rfl hL rfl ?_
    refine f_il 6 rfl hL rfl ?_
    refine f_il 7 rfl hL rfl ?_
    refine f_s [fi (1), fi (b), fi (a), fi (k), fi (y), fi (x), .ref 55, fi (g1 w f1 f2 1 b)] rfl rfl ?_
    refine m_k1 (t179_1 (a := a) (b := b) ra rb x1 y1 k1 hwv h0 h1 h2) hw13 hm13 rfl rfl rfl (m_ar so55 hw13 rfl) rfl (fun hc14 hw14 hm14 => ?_)
    refine f_ic rfl (g1_r hwv (by decide)) (g1_r hwv ra) (fun c1 => ?_) (fun c1 => ?_)
    · have c1 : (g1 w f1 f2 a b : Int) < (g1 w f1 f2 1 b : Int) := c1
      refine f_s [fi (0)] rfl rfl ?_
      refine f_ist [(6, fi (0)), (7, fi (1)), (0, .ref 55), (1, fi (x)), (2, fi (y)), (3, fi (k)), (4, fi (a)), (5, fi (b))] rfl (by decide) hL rfl (fun L37 hL37 => ?_)
      refine f_il 0 rfl hL37 rfl ?_
      refine f_if rfl (by decide) (fun _ => ?_) (fun c_9 => absurd (show (0 : Int) = (0 : Int) from (by decide)) c_9)
      refine f_s [fi (0)] rfl rfl ?_
      refine f_ist [(6, fi (0)), (7, fi (1)), (0, .ref 55), (1, fi (x)), (2, fi (y)), (3, fi (k)), (4, fi (a)), (5, fi (b))] rfl (by decide) hL37 rfl (fun L38 hL38 => ?_)
      refine f_inc 1 [(7, fi (2)), (6, fi (0)), (0, .ref 55), (1, fi (x)), (2, fi (y)), (3, fi (k)), (4, fi (a)), (5, fi (b))] rfl (by decide) hL38 rfl rfl (fun L39 hL39 => ?_)
      refine f_goto rfl ?_
      rw [show rR1 w f1 f2 a b = (rT w f1 f2 a b 1 && rR2 w f1 f2 a b) from rfl, show rT w f1 f2 a b 1 = false from decide_eq_false (by omega), Bool.false_and]
      exact hK2_0 hc14 _ hw14 hm14 (hL39.sel [0, 1, 2, 3, 4, 5, 6, 7] rfl)
    · have c1 : ¬ ((g1 w f1 f2 a b : Int) < (g1 w f1 f2 1 b : Int)) := c1
      refine f_s [fi (1)] rfl rfl ?_
      refine f_goto rfl ?_
      refine f_ist [(6, fi (1)), (7, fi (1)), (0, .ref 55), (1, fi (x)), (2, fi (y)), (3, fi (k)), (4, fi (a)), (5, fi (b))] rfl (by decide) hL rfl (fun L40 hL40 => ?_)
      refine f_il 0 rfl hL40 rfl ?_
      refine f_if rfl (by decide) (fun c_9 => absurd (show (1 : Int) = (0 : Int) from c_9) (by decide)) (fun _ => ?_)
      refine f_aln 2 rfl hL40 rfl ?_
      refine f_iln 3 rfl hL40 rfl ?_
      refine f_iln 4 rfl hL40 rfl ?_
      refine f_iln 5 rfl hL40 rfl ?_
      refine f_il 6 rfl hL40 rfl ?_
      refine f_il 1 rfl hL40 rfl ?_
      refine f_s [fi (0), fi (1), fi (a), fi (k), fi (y), fi (x), .ref 55] rfl rfl ?_
      refine m_k1 (t179_0 (a := a) (b := 1) ra (by decide) x1 y1 k1 hwv h0 h1 h2) hw14 hm14 rfl rfl rfl (m_ar so55 hw14 rfl) rfl (fun hc15 hw15 hm15 => ?_)
      refine f_aln 2 rfl hL40 rfl ?_
      refine f_iln 3 rfl hL40 rfl ?_
      refine f_iln 4 rfl hL40 rfl ?_
      refine f_iln 5 rfl hL40 rfl ?_
      refine f_il 6 rfl hL40 rfl ?_
      refine f_il 7 rfl hL40 rfl ?_
      refine f_s [fi (0), fi (b), fi (a), fi (k), fi (y), fi (x), .ref 55, fi (g2 w f1 f2 a 1)] rfl rfl ?_
      refine m_k1 (t179_0 (a := a) (b := b) ra rb x1 y1 k1 hwv h0 h1 h2) hw15 hm15 rfl rfl rfl (m_ar so55 hw15 rfl) rfl (fun hc16 hw16 hm16 => ?_)
      refine f_ic rfl (g2_r hwv (by decide)) (g2_r hwv rb) (fun c2 => ?_) (fun c2 => ?_)
      · have c2 : (g2 w f1 f2 a b : Int) < (g2 w f1 f2 a 1 : Int) := c2
        refine f_s [fi (0)] rfl rfl ?_
        refine f_ist [(6, fi (0)), (7, fi (1)), (0, .ref 55), (1, fi (x)), (2, fi (y)), (3, fi (k)), (4, fi (a)), (5, fi (b))] rfl (by decide) hL40 rfl (fun L41 hL41 => ?_)
        refine f_inc 1 [(7, fi (2)), (6, fi (0)), (0, .ref 55), (1, fi (x)), (2, fi (y)), (3, fi (k)), (4, fi (a)), (5, fi (b))] rfl (by decide) hL41 rfl rfl (fun L42 hL42 => ?_)
        refine f_goto rfl ?_
        rw [show rR1 w f1 f2 a b = (rT w f1 f2 a b 1 && rR2 w f1 f2 a b) from rfl, show rT w f1 f2 a b 1 = false from decide_eq_false (by omega), Bool.false_and]
        exact hK2_0 hc16 _ hw16 hm16 (hL42.sel [0, 1, 2, 3, 4, 5, 6, 7] rfl)
      · have c2 : ¬ ((g2 w f1 f2 a b : Int) < (g2 w f1 f2 a 1 : Int)) := c2
        refine f_s [fi (1)] rfl rfl ?_
        refine f_goto rfl ?_
        refine f_ist [(6, fi (1)), (7, fi (1)), (0, .ref 55), (1, fi (x)), (2, fi (y)), (3, fi (k)), (4, fi (a)), (5, fi (b))] rfl (by decide) hL40 rfl (fun L43 hL43 => ?_)
        refine f_inc 1 [(7, fi (2)), (6, fi (1)), (0, .ref 55), (1, fi (x)), (2, fi (y)), (3, fi (k)), (4, fi (a)), (5, fi (b))] rfl (by decide) hL43 rfl rfl (fun L44 hL44 => ?_)
        refine f_goto rfl ?_
        rw [show rR1 w f1 f2 a b = (rT w f1 f2 a b 1 && rR2 w f1 f2 a b) from rfl, show rT w f1 f2 a b 1 = true from decide_eq_true ⟨by omega, by omega⟩, Bool.true_and]
        exact hK2_1 hc16 _ hw16 hm16 (hL44.sel [0, 1, 2, 3, 4, 5, 6, 7] rfl)
  have hK0_0 : ∀ (hc : ev_H) (L : ev_L), y_in yGw hc → gi hc = m → f_L L [(7, fi (0)), (6, fi (0)), (0, .ref 55), (1, fi (x)), (2, fi (y)), (3, fi (k)), (4, fi (a)), (5, fi (b))] → x_W none (2, 0, 8, 5, 11, 4, 95, 0, 0, ev_t180) 6 L [] hc 0 0 (fun r' h' => r' = some (fi (0)) ∧ y_in yGw h' ∧ gi h' = m) := fun hc L hw hm hL => by
    refine f_il 0 rfl hL rfl ?_
    refine f_s [fi (5), fi (0)] rfl rfl ?_
    refine f_ic rfl (by decide) (by decide) (fun c_9 => absurd (show (5 : Int) ≤ (0 : Int) from c_9) (by decide)) (fun _ => ?_)
    refine f_il 1 rfl hL rfl ?_
    refine f_if rfl (by decide) (fun _ => ?_) (fun c_9 => absurd (show (0 : Int) = (0 : Int) from (by decide)) c_9)
    refine f_s [fi (0)] rfl rfl ?_
    refine f_ist [(6, fi (0)), (7, fi (0)), (0, .ref 55), (1, fi (x)), (2, fi (y)), (3, fi (k)), (4, fi (a)), (5, fi (b))] rfl (by decide) hL rfl (fun L45 hL45 => ?_)
    refine f_il 0 rfl hL45 rfl ?_
    refine f_if rfl (by decide) (fun _ => ?_) (fun c_9 => absurd (show (0 : Int) = (0 : Int) from (by decide)) c_9)
    refine f_s [fi (0)] rfl rfl ?_
    refine f_ist [(6, fi (0)), (7, fi (0)), (0, .ref 55), (1, fi (x)), (2, fi (y)), (3, fi (k)), (4, fi (a)), (5, fi (b))] rfl (by decide) hL45 rfl (fun L46 hL46 => ?_)
    refine f_inc 1 [(7, fi (1)), (6, fi (0)), (0, .ref 55), (1, fi (x)), (2, fi (y)), (3, fi (k)), (4, fi (a)), (5, fi (b))] rfl (by decide) hL46 rfl rfl (fun L47 hL47 => ?_)
    refine f_goto rfl ?_
    exact hK1_0 hc _ hw hm (hL47.sel [0, 1, 2, 3, 4, 5, 6, 7] rfl)
  have hK0_1 : ∀ (hc : ev_H) (L : ev_L), y_in yGw hc → gi hc = m → f_L L [(7, fi (0)), (6, fi (1)), (0, .ref 55), (1, fi (x)), (2, fi (y)), (3, fi (k)), (4, fi (a)), (5, fi (b))] → x_W none (2, 0, 8, 5, 11, 4, 95, 0, 0, ev_t180) 6 L [] hc 0 0 (fun r' h' => r' = some (fi (bI (rR0 w f1 f2 a b))) ∧ y_in yGw h' ∧ gi h' = m) := fun hc L hw hm hL => by
    refine f_il 0 rfl hL rfl ?_
    refine f_s [fi (5), fi (0)] rfl rfl ?_
    refine f_ic rfl (by decide) (by decide) (fun c_9 => absurd (show (5 : Int) ≤ (0 : Int) from c_9) (by decide)) (fun _ => ?_)
    refine f_il 1 rfl hL rfl ?_
    refine f_if rfl (by decide) (fun c_9 => absurd (show (1 : Int) = (0 : Int) from c_9) (by decide)) (fun _ => ?_)
    refine f_aln 2 rfl hL rfl ?_
    refine f_iln 3 rfl hL rfl ?_
    refine f_iln 4 rfl hL rfl ?_
    refine f_iln 5 rfl hL rfl ?_
    refine f_il 0 rfl hL rfl ?_
    refine f_il 7 rfl hL rfl ?_
    refine f_s [fi (1), fi (b), fi (0), fi (k), fi (y), fi (x), .ref 55] rfl rfl ?_
    refine m_k1 (t179_1 (a := 0) (b := b) (by decide) rb x1 y1 k1 hwv h0 h1 h2) hw hm rfl rfl rfl (m_ar so55 hw rfl) rfl (fun hc17 hw17 hm17 => ?_)
    refine f_aln 2 rfl hL rfl ?_
    refine f_iln 3 rfl hL rfl ?_
    refine f_iln 4 rfl hL rfl ?_
    refine f_iln 5 rfl hL rfl ?_
    refine f_il 6 rfl hL rfl ?_
    refine f_il 7 rfl hL rfl ?_
    refine f_s [fi (1), fi (b), fi (a), fi (k), fi (y), fi (x), .ref 55, fi (g1 w f1 f2 0 b)] rfl rfl ?_
    refine m_k1 (t179_1 (a := a) (b := b) ra rb x1 y1 k1 hwv h0 h1 h2) hw17 hm17 rfl rfl rfl (m_ar so55 hw17 rfl) rfl (fun hc18 hw18 hm18 => ?_)
    refine f_ic rfl (g1_r hwv (by decide)) (g1_r hwv ra) (fun c1 => ?_) (fun c1 => ?_)
    · have c1 : (g1 w f1 f2 a b : Int) < (g1 w f1 f2 0 b : Int) := c1
      refine f_s [fi (0)] rfl rfl ?_
      refine f_ist [(6, fi (0)), (7, fi (0)), (0, .ref 55), (1, fi (x)), (2, fi (y)), (3, fi (k)), (4, fi (a)), (5, fi (b))] rfl (by decide) hL rfl (fun L48 hL48 => ?_)
      refine f_il 0 rfl hL48 rfl ?_
      refine f_if rfl (by decide) (fun _ => ?_) (fun c_9 => absurd (show (0 : Int) = (0 : Int) from (by decide)) c_9)
      refine f_s [fi (0)] rfl rfl ?_
      refine f_ist [(6, fi (0)), (7, fi (0)), (0, .ref 55), (1, fi (x)), (2, fi (y)), (3, fi (k)), (4, fi (a)), (5, fi (b))] rfl (by decide) hL48 rfl (fun L49 hL49 => ?_)
      refine f_inc 1 [(7, fi (1)), (6, fi (0)), (0, .ref 55), (1, fi (x)), (2, fi (y)), (3, fi (k)), (4, fi (a)), (5, fi (b))] rfl (by decide) hL49 rfl rfl (fun L50 hL50 => ?_)
      refine f_goto rfl ?_
      rw [show rR0 w f1 f2 a b = (rT w f1 f2 a b 0 && rR1 w f1 f2 a b) from rfl, show rT w f1 f2 a b 0 = false from decide_eq_false (by omega), Bool.false_and]
      exact hK1_0 hc18 _ hw18 hm18 (hL50.sel [0, 1, 2, 3, 4, 5, 6, 7] rfl)
    · have c1 : ¬ ((g1 w f1 f2 a b : Int) < (g1 w f1 f2 0 b : Int)) := c1
      refine f_s [fi (1)] rfl rfl ?_
      refine f_goto rfl ?_
      refine f_ist [(6, fi (1)), (7, fi (0)), (0, .ref 55), (1, fi (x)), (2, fi (y)), (3, fi (k)), (4, fi (a)), (5, fi (b))] rfl (by decide) hL rfl (fun L51 hL51 => ?_)
      refine f_il 0 rfl hL51 rfl ?_
      refine f_if rfl (by decide) (fun c_9 => absurd (show (1 : Int) = (0 : Int) from c_9) (by decide)) (fun _ => ?_)
      refine f_aln 2 rfl hL51 rfl ?_
      refine f_iln 3 rfl hL51 rfl ?_
      refine f_iln 4 rfl hL51 rfl ?_
      refine f_iln 5 rfl hL51 rfl ?_
      refine f_il 6 rfl hL51 rfl ?_
      refine f_il 1 rfl hL51 rfl ?_
      refine f_s [fi (0), fi (0), fi (a), fi (k), fi (y), fi (x), .ref 55] rfl rfl ?_
      refine m_k1 (t179_0 (a := a) (b := 0) ra (by decide) x1 y1 k1 hwv h0 h1 h2) hw18 hm18 rfl rfl rfl (m_ar so55 hw18 rfl) rfl (fun hc19 hw19 hm19 => ?_)
      refine f_aln 2 rfl hL51 rfl ?_
      refine f_iln 3 rfl hL51 rfl ?_
      refine f_iln 4 rfl hL51 rfl ?_
      refine f_iln 5 rfl hL51 rfl ?_
      refine f_il 6 rfl hL51 rfl ?_
      refine f_il 7 rfl hL51 rfl ?_
      refine f_s [fi (0), fi (b), fi (a), fi (k), fi (y), fi (x), .ref 55, fi (g2 w f1 f2 a 0)] rfl rfl ?_
      refine m_k1 (t179_0 (a := a) (b := b) ra rb x1 y1 k1 hwv h0 h1 h2) hw19 hm19 rfl rfl rfl (m_ar so55 hw19 rfl) rfl (fun hc20 hw20 hm20 => ?_)
      refine f_ic rfl (g2_r hwv (by decide)) (g2_r hwv rb) (fun c2 => ?_) (fun c2 => ?_)
      · have c2 : (g2 w f1 f2 a b : Int) < (g2 w f1 f2 a 0 : Int) := c2
        refine f_s [fi (0)] rfl rfl ?_
        refine f_ist [(6, fi (0)), (7, fi (0)), (0, .ref 55), (1, fi (x)), (2, fi (y)), (3, fi (k)), (4, fi (a)), (5, fi (b))] rfl (by decide) hL51 rfl (fun L52 hL52 => ?_)
        refine f_inc 1 [(7, fi (1)), (6, fi (0)), (0, .ref 55), (1, fi (x)), (2, fi (y)), (3, fi (k)), (4, fi (a)), (5, fi (b))] rfl (by decide) hL52 rfl rfl (fun L53 hL53 => ?_)
        refine f_goto rfl ?_
        rw [show rR0 w f1 f2 a b = (rT w f1 f2 a b 0 && rR1 w f1 f2 a b) from rfl, show rT w f1 f2 a b 0 = false from decide_eq_false (by omega), Bool.false_and]
        exact hK1_0 hc20 _ hw20 hm20 (hL53.sel [0, 1, 2, 3, 4, 5, 6, 7] rfl)
      · have c2 : ¬ ((g2 w f1 f2 a b : Int) < (g2 w f1 f2 a 0 : Int)) := c2
        refine f_s [fi (1)] rfl rfl ?_
        refine f_goto rfl ?_
        refine f_ist [(6, fi (1)), (7, fi (0)), (0, .ref 55), (1, fi (x)), (2, fi (y)), (3, fi (k)), (4, fi (a)), (5, fi (b))] rfl (by decide) hL51 rfl (fun L54 hL54 => ?_)
        refine f_inc 1 [(7, fi (1)), (6, fi (1)), (0, .ref 55), (1, fi (x)), (2, fi (y)), (3, fi (k)), (4, fi (a)), (5, fi (b))] rfl (by decide) hL54 rfl rfl (fun L55 hL55 => ?_)
        refine f_goto rfl ?_
        rw [show rR0 w f1 f2 a b = (rT w f1 f2 a b 0 && rR1 w f1 f2 a b) from rfl, show rT w f1 f2 a b 0 = true from decide_eq_true ⟨by omega, by omega⟩, Bool.true_and]
        exact hK1_1 hc20 _ hw20 hm20 (hL55.sel [0, 1, 2, 3, 4, 5, 6, 7] rfl)
  refine f_s [fi (1)] rfl rfl ?_
  refine f_ist [(6, fi (1)), (0, .ref 55), (1, fi (x)), (2, fi (y)), (3, fi (k)), (4, fi (a)), (5, fi (b))] rfl (by decide) hL rfl (fun L56 hL56 => ?_)
  refine f_s [fi (0)] rfl rfl ?_
  refine f_ist [(7, fi (0)), (6, fi (1)), (0, .ref 55), (1, fi (x)), (2, fi (y)), (3, fi (k)), (4, fi (a)), (5, fi (b))] rfl (by decide) hL56 rfl (fun L57 hL57 => ?_)
  exact hK0_1 hc _ hw hm (hL57.sel [0, 1, 2, 3, 4, 5, 6, 7] rfl))
theorem t181_un {m : Nat → Nat → Int} (hn : 0 ≤ m 55 0 ∧ m 55 0 ≤ 4) (hp : 0 ≤ m 55 1 ∧ m 55 1 ≤ 5) {x : Int} (rx : -2147483648 ≤ x ∧ x ≤ 2147483647) {y : Int} (ry : -2147483648 ≤ y ∧ y ≤ 2147483647) {k : Int} (rk : -2147483648 ≤ k ∧ k ≤ 2147483647) {t : Int} (rt : -2147483648 ≤ t ∧ t ≤ 2147483647) (hu : ¬ ((0 ≤ x ∧ x < m 55 1) ∧ (0 ≤ y ∧ y < m 55 1) ∧ (0 ≤ k ∧ k < m 55 0))) : h_M 181 [.ref 55, fi (x), fi (y), fi (k), fi (t)] m (some (fi (-1))) m := h_M_of (R := ev_r181) rfl (fun hc hw hm => by
  have hL : f_L (lv_args 0 [.ref 55, fi (x), fi (y), fi (k), fi (t)]) [(0, .ref 55), (1, fi (x)), (2, fi (y)), (3, fi (k)), (4, fi (t))] := f_L_of rfl
  generalize lv_args 0 [.ref 55, fi (x), fi (y), fi (k), fi (t)] = L at hL
  show x_W none (1, 0, 8, 4, 11, 5, 122, 0, 0, ev_t181) 0 L [] hc 0 0 _
  have hR := gi_R hm
  refine f_aln 0 rfl hL rfl ?_
  refine f_iln 1 rfl hL rfl ?_
  refine m_k1 (t61 hp.1 hp.2 rx) hw hm rfl rfl rfl (m_ar so55 hw rfl) rfl (fun hc1 hw1 hm1 => ?_)
  refine f_if rfl (bI_r _) (fun c1 => ?_) (fun c1 => ?_)
  · have c1 : (bI (decide (0 ≤ x ∧ x < m 55 1)) : Int) = (0 : Int) := c1
    have c1 : ¬ (0 ≤ x ∧ x < m 55 1) := bI_f c1
    refine f_s [fi (-1)] rfl rfl ?_
    exact f_ret1 rfl ⟨rfl, hw1, hm1⟩
  · have c1 : ¬ ((bI (decide (0 ≤ x ∧ x < m 55 1)) : Int) = (0 : Int)) := c1
    have c1 : 0 ≤ x ∧ x < m 55 1 := bI_t c1
    refine f_aln 0 rfl hL rfl ?_
    refine f_iln 2 rfl hL rfl ?_
    refine m_k1 (t61 hp.1 hp.2 ry) hw1 hm1 rfl rfl rfl (m_ar so55 hw1 rfl) rfl (fun hc2 hw2 hm2 => ?_)
    refine f_if rfl (bI_r _) (fun c2 => ?_) (fun c2 => ?_)
    · have c2 : (bI (decide (0 ≤ y ∧ y < m 55 1)) : Int) = (0 : Int) := c2
      have c2 : ¬ (0 ≤ y ∧ y < m 55 1) := bI_f c2
      refine f_s [fi (-1)] rfl rfl ?_
      exact f_ret1 rfl ⟨rfl, hw2, hm2⟩
    · have c2 : ¬ ((bI (decide (0 ≤ y ∧ y < m 55 1)) : Int) = (0 : Int)) := c2
      have c2 : 0 ≤ y ∧ y < m 55 1 := bI_t c2
      refine f_aln 0 rfl hL rfl ?_
      refine f_iln 3 rfl hL rfl ?_
      refine m_k1 (t46 hn.1 hn.2 rk) hw2 hm2 rfl rfl rfl (m_ar so55 hw2 rfl) rfl (fun hc3 hw3 hm3 => ?_)
      refine f_if rfl (bI_r _) (fun c => absurd ⟨c1, c2, bI_t c⟩ hu) (fun c3 => ?_)
      have c3 : ¬ (¬ (bI (decide (0 ≤ k ∧ k < m 55 0)) : Int) = (0 : Int)) := c3
      have c3 : ¬ (0 ≤ k ∧ k < m 55 0) := bI_n c3
      refine f_s [fi (-1)] rfl rfl ?_
      exact f_ret1 rfl ⟨rfl, hw3, hm3⟩)
theorem t181_out {m : Nat → Nat → Int} (hn : 0 ≤ m 55 0 ∧ m 55 0 ≤ 4) (hp : 0 ≤ m 55 1 ∧ m 55 1 ≤ 5) {x : Int} (rx : -2147483648 ≤ x ∧ x ≤ 2147483647) {y : Int} (ry : -2147483648 ≤ y ∧ y ≤ 2147483647) {k : Int} (rk : -2147483648 ≤ k ∧ k ≤ 2147483647) {t : Int} (rt : -2147483648 ≤ t ∧ t ≤ 2147483647) (hx : 0 ≤ x ∧ x < m 55 1) (hy : 0 ≤ y ∧ y < m 55 1) (hk : 0 ≤ k ∧ k < m 55 0) (hu : ¬ (¬ x = y ∧ 0 ≤ t ∧ t ≤ 1)) : h_M 181 [.ref 55, fi (x), fi (y), fi (k), fi (t)] m (some (fi (-2))) m := h_M_of (R := ev_r181) rfl (fun hc hw hm => by
  have hL : f_L (lv_args 0 [.ref 55, fi (x), fi (y), fi (k), fi (t)]) [(0, .ref 55), (1, fi (x)), (2, fi (y)), (3, fi (k)), (4, fi (t))] := f_L_of rfl
  generalize lv_args 0 [.ref 55, fi (x), fi (y), fi (k), fi (t)] = L at hL
  show x_W none (1, 0, 8, 4, 11, 5, 122, 0, 0, ev_t181) 0 L [] hc 0 0 _
  have hR := gi_R hm
  refine f_aln 0 rfl hL rfl ?_
  refine f_iln 1 rfl hL rfl ?_
  refine m_k1 (t61 hp.1 hp.2 rx) hw hm rfl rfl rfl (m_ar so55 hw rfl) rfl (fun hc1 hw1 hm1 => ?_)
  refine f_if rfl (bI_r _) (fun c_9 => absurd (show (bI (decide (0 ≤ x ∧ x < m 55 1)) : Int) = (0 : Int) from c_9) (by rw [decide_eq_true hx]; decide)) (fun _ => ?_)
  refine f_aln 0 rfl hL rfl ?_
  refine f_iln 2 rfl hL rfl ?_
  refine m_k1 (t61 hp.1 hp.2 ry) hw1 hm1 rfl rfl rfl (m_ar so55 hw1 rfl) rfl (fun hc2 hw2 hm2 => ?_)
  refine f_if rfl (bI_r _) (fun c_9 => absurd (show (bI (decide (0 ≤ y ∧ y < m 55 1)) : Int) = (0 : Int) from c_9) (by rw [decide_eq_true hy]; decide)) (fun _ => ?_)
  refine f_aln 0 rfl hL rfl ?_
  refine f_iln 3 rfl hL rfl ?_
  refine m_k1 (t46 hn.1 hn.2 rk) hw2 hm2 rfl rfl rfl (m_ar so55 hw2 rfl) rfl (fun hc3 hw3 hm3 => ?_)
  refine f_if rfl (bI_r _) (fun _ => ?_) (fun c_9 => absurd (show ¬ (bI (decide (0 ≤ k ∧ k < m 55 0)) : Int) = (0 : Int) from (by rw [decide_eq_true hk]; decide)) c_9)
  refine f_iln 1 rfl hL rfl ?_
  refine f_iln 2 rfl hL rfl ?_
  refine f_ic rfl rx ry (fun c1 => ?_) (fun c1 => ?_)
  · have c1 : (x : Int) = (y : Int) := c1
    refine f_bipush (n := -2) rfl (by decide) ?_
    exact f_ret1 rfl ⟨rfl, hw3, hm3⟩
  · have c1 : ¬ ((x : Int) = (y : Int)) := c1
    refine f_il 4 rfl hL rfl ?_
    refine f_i2l rfl rt ?_
    refine f_s [fl (0), fl (t)] rfl rfl ?_
    refine f_s [fl (1), fl (0), fl (t)] rfl rfl ?_
    refine m_k1 (t_in t 0 1 (by omega) (by decide) (by decide)) hw3 hm3 rfl rfl rfl rfl rfl (fun hc4 hw4 hm4 => ?_)
    refine f_if rfl (bI_r _) (fun c => absurd ⟨c1, bI_t c⟩ hu) (fun c2 => ?_)
    have c2 : ¬ (¬ (bI (decide (0 ≤ t ∧ t ≤ 1)) : Int) = (0 : Int)) := c2
    have c2 : ¬ (0 ≤ t ∧ t ≤ 1) := bI_n c2
    refine f_bipush (n := -2) rfl (by decide) ?_
    exact f_ret1 rfl ⟨rfl, hw4, hm4⟩)
set_option maxHeartbeats 2000000 in
theorem t181_ok {m : Nat → Nat → Int} (hn : 0 ≤ m 55 0 ∧ m 55 0 ≤ 4) (hp : 0 ≤ m 55 1 ∧ m 55 1 ≤ 5) {x : Int} (rx : -2147483648 ≤ x ∧ x ≤ 2147483647) {y : Int} (ry : -2147483648 ≤ y ∧ y ≤ 2147483647) {k : Int} (rk : -2147483648 ≤ k ∧ k ≤ 2147483647) {t : Int} (rt : -2147483648 ≤ t ∧ t ≤ 2147483647) (hx : 0 ≤ x ∧ x < m 55 1) (hy : 0 ≤ y ∧ y < m 55 1) (hk : 0 ≤ k ∧ k < m 55 0) (hu : ¬ x = y ∧ 0 ≤ t ∧ t ≤ 1) {w : Int} {f1 f2 : Bool} (hwv : 0 ≤ w ∧ w ≤ 9) (h0 : m 57 (k).toNat = w) (h1 : decide (¬ iA (iR (m 61 16) (x)) (1) = 1 ∧ iA (iR (m 60 (x).toNat) (k)) (1) = 1) = f1) (h2 : decide (¬ iA (iR (m 61 16) (y)) (1) = 1 ∧ iA (iR (m 60 (y).toNat) (k)) (1) = 1) = f2) : h_M 181 [.ref 55, fi (x), fi (y), fi (k), fi (t)] m (some (fi (if t = 0 then lC (rl0 w f1 f2) 0 else lF (rl0 w f1 f2)))) m := h_M_of (R := ev_r181) rfl (fun hc hw hm => by
  have hL : f_L (lv_args 0 [.ref 55, fi (x), fi (y), fi (k), fi (t)]) [(0, .ref 55), (1, fi (x)), (2, fi (y)), (3, fi (k)), (4, fi (t))] := f_L_of rfl
  generalize lv_args 0 [.ref 55, fi (x), fi (y), fi (k), fi (t)] = L at hL
  show x_W none (1, 0, 8, 4, 11, 5, 122, 0, 0, ev_t181) 0 L [] hc 0 0 _
  have hR := gi_R hm
  have x1 : 0 ≤ x ∧ x < 5 := by omega
  have y1 : 0 ≤ y ∧ y < 5 := by omega
  have k1 : 0 ≤ k ∧ k < 4 := by omega
  have hK25 : ∀ (hc : ev_H) (n f : Int) (L : ev_L), y_in yGw hc → gi hc = m → (0 ≤ n ∧ n ≤ 25) → f_L L [(7, fi (25)), (5, fi (n)), (6, fi (f)), (0, .ref 55), (1, fi (x)), (2, fi (y)), (3, fi (k)), (4, fi (t))] → x_W none (1, 0, 8, 4, 11, 5, 122, 0, 0, ev_t181) 55 L [] hc 0 0 (fun r' h' => r' = some (fi (if t = 0 then lC (rl25 w f1 f2) n else lM (rl25 w f1 f2) n f)) ∧ y_in yGw h' ∧ gi h' = m) := fun hc n f L hw hm rn hL => by
    refine f_il 0 rfl hL rfl ?_
    refine f_bipush (n := 25) rfl (by decide) ?_
    refine f_ic rfl (by decide) (by decide) (fun _ => ?_) (fun c_9 => absurd (show (25 : Int) ≤ (25 : Int) from (by decide)) c_9)
    refine f_il 7 rfl hL rfl ?_
    refine f_if rfl rt (fun c9 => ?_) (fun c9 => ?_)
    · have c9 : ¬ (t : Int) = (0 : Int) := c9
      refine f_il 2 rfl hL rfl ?_
      exact f_ret1 rfl ⟨by rw [if_neg c9]; rfl, hw, hm⟩
    · have c9 : ¬ (¬ (t : Int) = (0 : Int)) := c9
      refine f_il 1 rfl hL rfl ?_
      refine f_goto rfl ?_
      exact f_ret1 rfl ⟨by rw [if_pos (by omega)]; rfl, hw, hm⟩
  have hK24 : ∀ (hc : ev_H) (n f : Int) (L : ev_L), y_in yGw hc → gi hc = m → (0 ≤ n ∧ n ≤ 24) → f_L L [(7, fi (24)), (5, fi (n)), (6, fi (f)), (0, .ref 55), (1, fi (x)), (2, fi (y)), (3, fi (k)), (4, fi (t))] → x_W none (1, 0, 8, 4, 11, 5, 122, 0, 0, ev_t181) 55 L [] hc 0 0 (fun r' h' => r' = some (fi (if t = 0 then lC (rl24 w f1 f2) n else lM (rl24 w f1 f2) n f)) ∧ y_in yGw h' ∧ gi h' = m) := fun hc n f L hw hm rn hL => by
    refine f_il 0 rfl hL rfl ?_
    refine f_bipush (n := 25) rfl (by decide) ?_
    refine f_ic rfl (by decide) (by decide) (fun c_9 => absurd (show (25 : Int) ≤ (24 : Int) from c_9) (by decide)) (fun _ => ?_)
    refine f_aln 3 rfl hL rfl ?_
    refine f_iln 4 rfl hL rfl ?_
    refine f_iln 5 rfl hL rfl ?_
    refine f_iln 6 rfl hL rfl ?_
    refine f_il 0 rfl hL rfl ?_
    refine f_s [fi (5), fi (24), fi (k), fi (y), fi (x), .ref 55] rfl rfl ?_
    refine f_idiv rfl (by decide) (by decide) (by decide) (by decide) ?_
    refine b_eq (x := 4) (by decide) ?_
    refine f_il 0 rfl hL rfl ?_
    refine f_s [fi (5), fi (24), fi (4), fi (k), fi (y), fi (x), .ref 55] rfl rfl ?_
    refine f_irem rfl (by decide) (by decide) (by decide) (by decide) ?_
    refine b_eq (x := 4) (by decide) ?_
    refine m_k1 (t180 (a := 4) (b := 4) (by decide) (by decide) x1 y1 k1 hwv h0 h1 h2) hw hm rfl rfl rfl (m_ar so55 hw rfl) rfl (fun hc1 hw1 hm1 => ?_)
    refine f_if rfl (bI_r _) (fun c1 => ?_) (fun c1 => ?_)
    · have c1 : (bI (rR0 w f1 f2 4 4) : Int) = (0 : Int) := c1
      refine f_inc 0 [(7, fi (25)), (5, fi (n)), (6, fi (f)), (0, .ref 55), (1, fi (x)), (2, fi (y)), (3, fi (k)), (4, fi (t))] rfl (by decide) hL rfl rfl (fun L1 hL1 => ?_)
      refine f_goto rfl ?_
      have eC : lC (rl24 w f1 f2) n = lC (rl25 w f1 f2) n := by
        show lC (rl25 w f1 f2) (n + bI (rR0 w f1 f2 4 4)) = _
        rw [bI0 c1]
        show lC (rl25 w f1 f2) (n + 0) = _
        rw [Int.add_zero]
      have eM : lM (rl24 w f1 f2) n f = lM (rl25 w f1 f2) n f := if_neg (by rw [bI0 c1]; decide)
      rw [eC, eM]
      exact hK25 hc1 _ _ _ hw1 hm1 (by omega) (hL1.sel [0, 1, 2, 3, 4, 5, 6, 7] rfl)
    · have c1 : ¬ ((bI (rR0 w f1 f2 4 4) : Int) = (0 : Int)) := c1
      refine f_il 1 rfl hL rfl ?_
      refine f_if rfl (by omega) (fun c2 => ?_) (fun c2 => ?_)
      · have c2 : ¬ (n : Int) = (0 : Int) := c2
        refine f_il 2 rfl hL rfl ?_
        refine f_ist [(6, fi (f)), (7, fi (24)), (5, fi (n)), (0, .ref 55), (1, fi (x)), (2, fi (y)), (3, fi (k)), (4, fi (t))] rfl (by decide) hL rfl (fun L2 hL2 => ?_)
        refine f_inc 2 [(5, fi (n + 1)), (6, fi (f)), (7, fi (24)), (0, .ref 55), (1, fi (x)), (2, fi (y)), (3, fi (k)), (4, fi (t))] rfl (by decide) hL2 rfl rfl (fun L3 hL3 => ?_)
        refine f_inc 2 [(7, fi (25)), (5, fi (n + 1)), (6, fi (f)), (0, .ref 55), (1, fi (x)), (2, fi (y)), (3, fi (k)), (4, fi (t))] rfl (by decide) hL3 rfl rfl (fun L4 hL4 => ?_)
        refine f_goto rfl ?_
        have eC : lC (rl24 w f1 f2) n = lC (rl25 w f1 f2) (n + 1) := by
          show lC (rl25 w f1 f2) (n + bI (rR0 w f1 f2 4 4)) = _
          rw [bI1 c1]
          rfl
        have eM : lM (rl24 w f1 f2) n f = lM (rl25 w f1 f2) (n + 1) (f) := (if_pos (bI1 c1)).trans (by rw [if_neg (show ¬ n = 0 by omega)])
        rw [eC, eM]
        exact hK25 hc1 _ _ _ hw1 hm1 (by omega) (hL4.sel [0, 1, 2, 3, 4, 5, 6, 7] rfl)
      · have c2 : ¬ (¬ (n : Int) = (0 : Int)) := c2
        refine f_bipush (n := 10) rfl (by decide) ?_
        refine f_il 0 rfl hL rfl ?_
        refine f_s [fi (5), fi (24), fi (10)] rfl rfl ?_
        refine f_idiv rfl (by decide) (by decide) (by decide) (by decide) ?_
        refine b_eq (x := 4) (by decide) ?_
        refine f_imul rfl ?_
        refine b_eq (x := 40) (by decide) ?_
        refine f_il 0 rfl hL rfl ?_
        refine f_s [fi (5), fi (24), fi (40)] rfl rfl ?_
        refine f_irem rfl (by decide) (by decide) (by decide) (by decide) ?_
        refine b_eq (x := 4) (by decide) ?_
        refine f_iadd rfl ?_
        refine b_eq (x := 44) (by decide) ?_
        refine f_goto rfl ?_
        refine f_ist [(6, fi (44)), (7, fi (24)), (5, fi (n)), (0, .ref 55), (1, fi (x)), (2, fi (y)), (3, fi (k)), (4, fi (t))] rfl (by decide) hL rfl (fun L5 hL5 => ?_)
        refine f_inc 2 [(5, fi (n + 1)), (6, fi (44)), (7, fi (24)), (0, .ref 55), (1, fi (x)), (2, fi (y)), (3, fi (k)), (4, fi (t))] rfl (by decide) hL5 rfl rfl (fun L6 hL6 => ?_)
        refine f_inc 2 [(7, fi (25)), (5, fi (n + 1)), (6, fi (44)), (0, .ref 55), (1, fi (x)), (2, fi (y)), (3, fi (k)), (4, fi (t))] rfl (by decide) hL6 rfl rfl (fun L7 hL7 => ?_)
        refine f_goto rfl ?_
        have eC : lC (rl24 w f1 f2) n = lC (rl25 w f1 f2) (n + 1) := by
          show lC (rl25 w f1 f2) (n + bI (rR0 w f1 f2 4 4)) = _
          rw [bI1 c1]
          rfl
        have eM : lM (rl24 w f1 f2) n f = lM (rl25 w f1 f2) (n + 1) (44) := (if_pos (bI1 c1)).trans (by rw [if_pos (show n = 0 by omega)])
        rw [eC, eM]
        exact hK25 hc1 _ _ _ hw1 hm1 (by omega) (hL7.sel [0, 1, 2, 3, 4, 5, 6, 7] rfl)
  have hK23 : ∀ (hc : ev_H) (n f : Int) (L : ev_L), y_in yGw hc → gi hc = m → (0 ≤ n ∧ n ≤ 23) → f_L L [(7, fi (23)), (5, fi (n)), (6, fi (f)), (0, .ref 55), (1, fi (x)), (2, fi (y)), (3, fi (k)), (4, fi (t))] → x_W none (1, 0, 8, 4, 11, 5, 122, 0, 0, ev_t181) 55 L [] hc 0 0 (fun r' h' => r' = some (fi (if t = 0 then lC (rl23 w f1 f2) n else lM (rl23 w f1 f2) n f)) ∧ y_in yGw h' ∧ gi h' = m) := fun hc n f L hw hm rn hL => by
    refine f_il 0 rfl hL rfl ?_
    refine f_bipush (n := 25) rfl (by decide) ?_
    refine f_ic rfl (by decide) (by decide) (fun c_9 => absurd (show (25 : Int) ≤ (23 : Int) from c_9) (by decide)) (fun _ => ?_)
    refine f_aln 3 rfl hL rfl ?_
    refine f_iln 4 rfl hL rfl ?_
    refine f_iln 5 rfl hL rfl ?_
    refine f_iln 6 rfl hL rfl ?_
    refine f_il 0 rfl hL rfl ?_
    refine f_s [fi (5), fi (23), fi (k), fi (y), fi (x), .ref 55] rfl rfl ?_
    refine f_idiv rfl (by decide) (by decide) (by decide) (by decide) ?_
    refine b_eq (x := 4) (by decide) ?_
    refine f_il 0 rfl hL rfl ?_
    refine f_s [fi (5), fi (23), fi (4), fi (k), fi (y), fi (x), .ref 55] rfl rfl ?_
    refine f_irem rfl (by decide) (by decide) (by decide) (by decide) ?_
    refine b_eq (x := 3) (by decide) ?_
    refine m_k1 (t180 (a := 4) (b := 3) (by decide) (by decide) x1 y1 k1 hwv h0 h1 h2) hw hm rfl rfl rfl (m_ar so55 hw rfl) rfl (fun hc2 hw2 hm2 => ?_)
    refine f_if rfl (bI_r _) (fun c1 => ?_) (fun c1 => ?_)
    · have c1 : (bI (rR0 w f1 f2 4 3) : Int) = (0 : Int) := c1
      refine f_inc 0 [(7, fi (24)), (5, fi (n)), (6, fi (f)), (0, .ref 55), (1, fi (x)), (2, fi (y)), (3, fi (k)), (4, fi (t))] rfl (by decide) hL rfl rfl (fun L8 hL8 => ?_)
      refine f_goto rfl ?_
      have eC : lC (rl23 w f1 f2) n = lC (rl24 w f1 f2) n := by
        show lC (rl24 w f1 f2) (n + bI (rR0 w f1 f2 4 3)) = _
        rw [bI0 c1]
        show lC (rl24 w f1 f2) (n + 0) = _
        rw [Int.add_zero]
      have eM : lM (rl23 w f1 f2) n f = lM (rl24 w f1 f2) n f := if_neg (by rw [bI0 c1]; decide)
      rw [eC, eM]
      exact hK24 hc2 _ _ _ hw2 hm2 (by omega) (hL8.sel [0, 1, 2, 3, 4, 5, 6, 7] rfl)
    · have c1 : ¬ ((bI (rR0 w f1 f2 4 3) : Int) = (0 : Int)) := c1
      refine f_il 1 rfl hL rfl ?_
      refine f_if rfl (by omega) (fun c2 => ?_) (fun c2 => ?_)
      · have c2 : ¬ (n : Int) = (0 : Int) := c2
        refine f_il 2 rfl hL rfl ?_
        refine f_ist [(6, fi (f)), (7, fi (23)), (5, fi (n)), (0, .ref 55), (1, fi (x)), (2, fi (y)), (3, fi (k)), (4, fi (t))] rfl (by decide) hL rfl (fun L9 hL9 => ?_)
        refine f_inc 2 [(5, fi (n + 1)), (6, fi (f)), (7, fi (23)), (0, .ref 55), (1, fi (x)), (2, fi (y)), (3, fi (k)), (4, fi (t))] rfl (by decide) hL9 rfl rfl (fun L10 hL10 => ?_)
        refine f_inc 2 [(7, fi (24)), (5, fi (n + 1)), (6, fi (f)), (0, .ref 55), (1, fi (x)), (2, fi (y)), (3, fi (k)), (4, fi (t))] rfl (by decide) hL10 rfl rfl (fun L11 hL11 => ?_)
        refine f_goto rfl ?_
        have eC : lC (rl23 w f1 f2) n = lC (rl24 w f1 f2) (n + 1) := by
          show lC (rl24 w f1 f2) (n + bI (rR0 w f1 f2 4 3)) = _
          rw [bI1 c1]
          rfl
        have eM : lM (rl23 w f1 f2) n f = lM (rl24 w f1 f2) (n + 1) (f) := (if_pos (bI1 c1)).trans (by rw [if_neg (show ¬ n = 0 by omega)])
        rw [eC, eM]
        exact hK24 hc2 _ _ _ hw2 hm2 (by omega) (hL11.sel [0, 1, 2, 3, 4, 5, 6, 7] rfl)
      · have c2 : ¬ (¬ (n : Int) = (0 : Int)) := c2
        refine f_bipush (n := 10) rfl (by decide) ?_
        refine f_il 0 rfl hL rfl ?_
        refine f_s [fi (5), fi (23), fi (10)] rfl rfl ?_
        refine f_idiv rfl (by decide) (by decide) (by decide) (by decide) ?_
        refine b_eq (x := 4) (by decide) ?_
        refine f_imul rfl ?_
        refine b_eq (x := 40) (by decide) ?_
        refine f_il 0 rfl hL rfl ?_
        refine f_s [fi (5), fi (23), fi (40)] rfl rfl ?_
        refine f_irem rfl (by decide) (by decide) (by decide) (by decide) ?_
        refine b_eq (x := 3) (by decide) ?_
        refine f_iadd rfl ?_
        refine b_eq (x := 43) (by decide) ?_
        refine f_goto rfl ?_
        refine f_ist [(6, fi (43)), (7, fi (23)), (5, fi (n)), (0, .ref 55), (1, fi (x)), (2, fi (y)), (3, fi (k)), (4, fi (t))] rfl (by decide) hL rfl (fun L12 hL12 => ?_)
        refine f_inc 2 [(5, fi (n + 1)), (6, fi (43)), (7, fi (23)), (0, .ref 55), (1, fi (x)), (2, fi (y)), (3, fi (k)), (4, fi (t))] rfl (by decide) hL12 rfl rfl (fun L13 hL13 => ?_)
        refine f_inc 2 [(7, fi (24)), (5, fi (n + 1)), (6, fi (43)), (0, .ref 55), (1, fi (x)), (2, fi (y)), (3, fi (k)), (4, fi (t))] rfl (by decide) hL13 rfl rfl (fun L14 hL14 => ?_)
        refine f_goto rfl ?_
        have eC : lC (rl23 w f1 f2) n = lC (rl24 w f1 f2) (n + 1) := by
          show lC (rl24 w f1 f2) (n + bI (rR0 w f1 f2 4 3)) = _
          rw [bI1 c1]
          rfl
        have eM : lM (rl23 w f1 f2) n f = lM (rl24 w f1 f2) (n + 1) (43) := (if_pos (bI1 c1)).trans (by rw [if_pos (show n = 0 by omega)])
        rw [eC, eM]
        exact hK24 hc2 _ _ _ hw2 hm2 (by omega) (hL14.sel [0, 1, 2, 3, 4, 5, 6, 7] rfl)
  have hK22 : ∀ (hc : ev_H) (n f : Int) (L : ev_L), y_in yGw hc → gi hc = m → (0 ≤ n ∧ n ≤ 22) → f_L L [(7, fi (22)), (5, fi (n)), (6, fi (f)), (0, .ref 55), (1, fi (x)), (2, fi (y)), (3, fi (k)), (4, fi (t))] → x_W none (1, 0, 8, 4, 11, 5, 122, 0, 0, ev_t181) 55 L [] hc 0 0 (fun r' h' => r' = some (fi (if t = 0 then lC (rl22 w f1 f2) n else lM (rl22 w f1 f2) n f)) ∧ y_in yGw h' ∧ gi h' = m) := fun hc n f L hw hm rn hL => by
    refine f_il 0 rfl hL rfl ?_
    refine f_bipush (n := 25) rfl (by decide) ?_
    refine f_ic rfl (by decide) (by decide) (fun c_9 => absurd (show (25 : Int) ≤ (22 : Int) from c_9) (by decide)) (fun _ => ?_)
    refine f_aln 3 rfl hL rfl ?_
    refine f_iln 4 rfl hL rfl ?_
    refine f_iln 5 rfl hL rfl ?_
    refine f_iln 6 rfl hL rfl ?_
    refine f_il 0 rfl hL rfl ?_
    refine f_s [fi (5), fi (22), fi (k), fi (y), fi (x), .ref 55] rfl rfl ?_
    refine f_idiv rfl (by decide) (by decide) (by decide) (by decide) ?_
    refine b_eq (x := 4) (by decide) ?_
    refine f_il 0 rfl hL rfl ?_
    refine f_s [fi (5), fi (22), fi (4), fi (k), fi (y), fi (x), .ref 55] rfl rfl ?_
    refine f_irem rfl (by decide) (by decide) (by decide) (by decide) ?_
    refine b_eq (x := 2) (by decide) ?_
    refine m_k1 (t180 (a := 4) (b := 2) (by decide) (by decide) x1 y1 k1 hwv h0 h1 h2) hw hm rfl rfl rfl (m_ar so55 hw rfl) rfl (fun hc3 hw3 hm3 => ?_)
    refine f_if rfl (bI_r _) (fun c1 => ?_) (fun c1 => ?_)
    · have c1 : (bI (rR0 w f1 f2 4 2) : Int) = (0 : Int) := c1
      refine f_inc 0 [(7, fi (23)), (5, fi (n)), (6, fi (f)), (0, .ref 55), (1, fi (x)), (2, fi (y)), (3, fi (k)), (4, fi (t))] rfl (by decide) hL rfl rfl (fun L15 hL15 => ?_)
      refine f_goto rfl ?_
      have eC : lC (rl22 w f1 f2) n = lC (rl23 w f1 f2) n := by
        show lC (rl23 w f1 f2) (n + bI (rR0 w f1 f2 4 2)) = _
        rw [bI0 c1]
        show lC (rl23 w f1 f2) (n + 0) = _
        rw [Int.add_zero]
      have eM : lM (rl22 w f1 f2) n f = lM (rl23 w f1 f2) n f := if_neg (by rw [bI0 c1]; decide)
      rw [eC, eM]
      exact hK23 hc3 _ _ _ hw3 hm3 (by omega) (hL15.sel [0, 1, 2, 3, 4, 5, 6, 7] rfl)
    · have c1 : ¬ ((bI (rR0 w f1 f2 4 2) : Int) = (0 : Int)) := c1
      refine f_il 1 rfl hL rfl ?_
      refine f_if rfl (by omega) (fun c2 => ?_) (fun c2 => ?_)
      · have c2 : ¬ (n : Int) = (0 : Int) := c2
        refine f_il 2 rfl hL rfl ?_
        refine f_ist [(6, fi (f)), (7, fi (22)), (5, fi (n)), (0, .ref 55), (1, fi (x)), (2, fi (y)), (3, fi (k)), (4, fi (t))] rfl (by decide) hL rfl (fun L16 hL16 => ?_)
        refine f_inc 2 [(5, fi (n + 1)), (6, fi (f)), (7, fi (22)), (0, .ref 55), (1, fi (x)), (2, fi (y)), (3, fi (k)), (4, fi (t))] rfl (by decide) hL16 rfl rfl (fun L17 hL17 => ?_)
        refine f_inc 2 [(7, fi (23)), (5, fi (n + 1)), (6, fi (f)), (0, .ref 55), (1, fi (x)), (2, fi (y)), (3, fi (k)), (4, fi (t))] rfl (by decide) hL17 rfl rfl (fun L18 hL18 => ?_)
        refine f_goto rfl ?_
        have eC : lC (rl22 w f1 f2) n = lC (rl23 w f1 f2) (n + 1) := by
          show lC (rl23 w f1 f2) (n + bI (rR0 w f1 f2 4 2)) = _
          rw [bI1 c1]
          rfl
        have eM : lM (rl22 w f1 f2) n f = lM (rl23 w f1 f2) (n + 1) (f) := (if_pos (bI1 c1)).trans (by rw [if_neg (show ¬ n = 0 by omega)])
        rw [eC, eM]
        exact hK23 hc3 _ _ _ hw3 hm3 (by omega) (hL18.sel [0, 1, 2, 3, 4, 5, 6, 7] rfl)
      · have c2 : ¬ (¬ (n : Int) = (0 : Int)) := c2
        refine f_bipush (n := 10) rfl (by decide) ?_
        refine f_il 0 rfl hL rfl ?_
        refine f_s [fi (5), fi (22), fi (10)] rfl rfl ?_
        refine f_idiv rfl (by decide) (by decide) (by decide) (by decide) ?_
        refine b_eq (x := 4) (by decide) ?_
        refine f_imul rfl ?_
        refine b_eq (x := 40) (by decide) ?_
        refine f_il 0 rfl hL rfl ?_
        refine f_s [fi (5), fi (22), fi (40)] rfl rfl ?_
        refine f_irem rfl (by decide) (by decide) (by decide) (by decide) ?_
        refine b_eq (x := 2) (by decide) ?_
        refine f_iadd rfl ?_
        refine b_eq (x := 42) (by decide) ?_
        refine f_goto rfl ?_
        refine f_ist [(6, fi (42)), (7, fi (22)), (5, fi (n)), (0, .ref 55), (1, fi (x)), (2, fi (y)), (3, fi (k)), (4, fi (t))] rfl (by decide) hL rfl (fun L19 hL19 => ?_)
        refine f_inc 2 [(5, fi (n + 1)), (6, fi (42)), (7, fi (22)), (0, .ref 55), (1, fi (x)), (2, fi (y)), (3, fi (k)), (4, fi (t))] rfl (by decide) hL19 rfl rfl (fun L20 hL20 => ?_)
        refine f_inc 2 [(7, fi (23)), (5, fi (n + 1)), (6, fi (42)), (0, .ref 55), (1, fi (x)), (2, fi (y)), (3, fi (k)), (4, fi (t))] rfl (by decide) hL20 rfl rfl (fun L21 hL21 => ?_)
        refine f_goto rfl ?_
        have eC : lC (rl22 w f1 f2) n = lC (rl23 w f1 f2) (n + 1) := by
          show lC (rl23 w f1 f2) (n + bI (rR0 w f1 f2 4 2)) = _
          rw [bI1 c1]
          rfl
        have eM : lM (rl22 w f1 f2) n f = lM (rl23 w f1 f2) (n + 1) (42) := (if_pos (bI1 c1)).trans (by rw [if_pos (show n = 0 by omega)])
        rw [eC, eM]
        exact hK23 hc3 _ _ _ hw3 hm3 (by omega) (hL21.sel [0, 1, 2, 3, 4, 5, 6, 7] rfl)
  have hK21 : ∀ (hc : ev_H) (n f : Int) (L : ev_L), y_in yGw hc → gi hc = m → (0 ≤ n ∧ n ≤ 21) → f_L L [(7, fi (21)), (5, fi (n)), (6, fi (f)), (0, .ref 55), (1, fi (x)), (2, fi (y)), (3, fi (k)), (4, fi (t))] → x_W none (1, 0, 8, 4, 11, 5, 122, 0, 0, ev_t181) 55 L [] hc 0 0 (fun r' h' => r' = some (fi (if t = 0 then lC (rl21 w f1 f2) n else lM (rl21 w f1 f2) n f)) ∧ y_in yGw h' ∧ gi h' = m) := fun hc n f L hw hm rn hL => by
    refine f_il 0 rfl hL rfl ?_
    refine f_bipush (n := 25) rfl (by decide) ?_
    refine f_ic rfl (by decide) (by decide) (fun c_9 => absurd (show (25 : Int) ≤ (21 : Int) from c_9) (by decide)) (fun _ => ?_)
    refine f_aln 3 rfl hL rfl ?_
    refine f_iln 4 rfl hL rfl ?_
    refine f_iln 5 rfl hL rfl ?_
    refine f_iln 6 rfl hL rfl ?_
    refine f_il 0 rfl hL rfl ?_
    refine f_s [fi (5), fi (21), fi (k), fi (y), fi (x), .ref 55] rfl rfl ?_
    refine f_idiv rfl (by decide) (by decide) (by decide) (by decide) ?_
    refine b_eq (x := 4) (by decide) ?_
    refine f_il 0 rfl hL rfl ?_
    refine f_s [fi (5), fi (21), fi (4), fi (k), fi (y), fi (x), .ref 55] rfl rfl ?_
    refine f_irem rfl (by decide) (by decide) (by decide) (by decide) ?_
    refine b_eq (x := 1) (by decide) ?_
    refine m_k1 (t180 (a := 4) (b := 1) (by decide) (by decide) x1 y1 k1 hwv h0 h1 h2) hw hm rfl rfl rfl (m_ar so55 hw rfl) rfl (fun hc4 hw4 hm4 => ?_)
    refine f_if rfl (bI_r _) (fun c1 => ?_) (fun c1 => ?_)
    · have c1 : (bI (rR0 w f1 f2 4 1) : Int) = (0 : Int) := c1
      refine f_inc 0 [(7, fi (22)), (5, fi (n)), (6, fi (f)), (0, .ref 55), (1, fi (x)), (2, fi (y)), (3, fi (k)), (4, fi (t))] rfl (by decide) hL rfl rfl (fun L22 hL22 => ?_)
      refine f_goto rfl ?_
      have eC : lC (rl21 w f1 f2) n = lC (rl22 w f1 f2) n := by
        show lC (rl22 w f1 f2) (n + bI (rR0 w f1 f2 4 1)) = _
        rw [bI0 c1]
        show lC (rl22 w f1 f2) (n + 0) = _
        rw [Int.add_zero]
      have eM : lM (rl21 w f1 f2) n f = lM (rl22 w f1 f2) n f := if_neg (by rw [bI0 c1]; decide)
      rw [eC, eM]
      exact hK22 hc4 _ _ _ hw4 hm4 (by omega) (hL22.sel [0, 1, 2, 3, 4, 5, 6, 7] rfl)
    · have c1 : ¬ ((bI (rR0 w f1 f2 4 1) : Int) = (0 : Int)) := c1
      refine f_il 1 rfl hL rfl ?_
      refine f_if rfl (by omega) (fun c2 => ?_) (fun c2 => ?_)
      · have c2 : ¬ (n : Int) = (0 : Int) := c2
        refine f_il 2 rfl hL rfl ?_
        refine f_ist [(6, fi (f)), (7, fi (21)), (5, fi (n)), (0, .ref 55), (1, fi (x)), (2, fi (y)), (3, fi (k)), (4, fi (t))] rfl (by decide) hL rfl (fun L23 hL23 => ?_)
        refine f_inc 2 [(5, fi (n + 1)), (6, fi (f)), (7, fi (21)), (0, .ref 55), (1, fi (x)), (2, fi (y)), (3, fi (k)), (4, fi (t))] rfl (by decide) hL23 rfl rfl (fun L24 hL24 => ?_)
        refine f_inc 2 [(7, fi (22)), (5, fi (n + 1)), (6, fi (f)), (0, .ref 55), (1, fi (x)), (2, fi (y)), (3, fi (k)), (4, fi (t))] rfl (by decide) hL24 rfl rfl (fun L25 hL25 => ?_)
        refine f_goto rfl ?_
        have eC : lC (rl21 w f1 f2) n = lC (rl22 w f1 f2) (n + 1) := by
          show lC (rl22 w f1 f2) (n + bI (rR0 w f1 f2 4 1)) = _
          rw [bI1 c1]
          rfl
        have eM : lM (rl21 w f1 f2) n f = lM (rl22 w f1 f2) (n + 1) (f) := (if_pos (bI1 c1)).trans (by rw [if_neg (show ¬ n = 0 by omega)])
        rw [eC, eM]
        exact hK22 hc4 _ _ _ hw4 hm4 (by omega) (hL25.sel [0, 1, 2, 3, 4, 5, 6, 7] rfl)
      · have c2 : ¬ (¬ (n : Int) = (0 : Int)) := c2
        refine f_bipush (n := 10) rfl (by decide) ?_
        refine f_il 0 rfl hL rfl ?_
        refine f_s [fi (5), fi (21), fi (10)] rfl rfl ?_
        refine f_idiv rfl (by decide) (by decide) (by decide) (by decide) ?_
        refine b_eq (x := 4) (by decide) ?_
        refine f_imul rfl ?_
        refine b_eq (x := 40) (by decide) ?_
        refine f_il 0 rfl hL rfl ?_
        refine f_s [fi (5), fi (21), fi (40)] rfl rfl ?_
        refine f_irem rfl (by decide) (by decide) (by decide) (by decide) ?_
        refine b_eq (x := 1) (by decide) ?_
        refine f_iadd rfl ?_
        refine b_eq (x := 41) (by decide) ?_
        refine f_goto rfl ?_
        refine f_ist [(6, fi (41)), (7, fi (21)), (5, fi (n)), (0, .ref 55), (1, fi (x)), (2, fi (y)), (3, fi (k)), (4, fi (t))] rfl (by decide) hL rfl (fun L26 hL26 => ?_)
        refine f_inc 2 [(5, fi (n + 1)), (6, fi (41)), (7, fi (21)), (0, .ref 55), (1, fi (x)), (2, fi (y)), (3, fi (k)), (4, fi (t))] rfl (by decide) hL26 rfl rfl (fun L27 hL27 => ?_)
        refine f_inc 2 [(7, fi (22)), (5, fi (n + 1)), (6, fi (41)), (0, .ref 55), (1, fi (x)), (2, fi (y)), (3, fi (k)), (4, fi (t))] rfl (by decide) hL27 rfl rfl (fun L28 hL28 => ?_)
        refine f_goto rfl ?_
        have eC : lC (rl21 w f1 f2) n = lC (rl22 w f1 f2) (n + 1) := by
          show lC (rl22 w f1 f2) (n + bI (rR0 w f1 f2 4 1)) = _
          rw [bI1 c1]
          rfl
        have eM : lM (rl21 w f1 f2) n f = lM (rl22 w f1 f2) (n + 1) (41) := (if_pos (bI1 c1)).trans (by rw [if_pos (show n = 0 by omega)])
        rw [eC, eM]
        exact hK22 hc4 _ _ _ hw4 hm4 (by omega) (hL28.sel [0, 1, 2, 3, 4, 5, 6, 7] rfl)
  have hK20 : ∀ (hc : ev_H) (n f : Int) (L : ev_L), y_in yGw hc → gi hc = m → (0 ≤ n ∧ n ≤ 20) → f_L L [(7, fi (20)), (5, fi (n)), (6, fi (f)), (0, .ref 55), (1, fi (x)), (2, fi (y)), (3, fi (k)), (4, fi (t))] → x_W none (1, 0, 8, 4, 11, 5, 122, 0, 0, ev_t181) 55 L [] hc 0 0 (fun r' h' => r' = some (fi (if t = 0 then lC (rl20 w f1 f2) n else lM (rl20 w f1 f2) n f)) ∧ y_in yGw h' ∧ gi h' = m) := fun hc n f L hw hm rn hL => by
    refine f_il 0 rfl hL rfl ?_
    refine f_bipush (n := 25) rfl (by decide) ?_
    refine f_ic rfl (by decide) (by decide) (fun c_9 => absurd (show (25 : Int) ≤ (20 : Int) from c_9) (by decide)) (fun _ => ?_)
    refine f_aln 3 rfl hL rfl ?_
    refine f_iln 4 rfl hL rfl ?_
    refine f_iln 5 rfl hL rfl ?_
    refine f_iln 6 rfl hL rfl ?_
    refine f_il 0 rfl hL rfl ?_
    refine f_s [fi (5), fi (20), fi (k), fi (y), fi (x), .ref 55] rfl rfl ?_
    refine f_idiv rfl (by decide) (by decide) (by decide) (by decide) ?_
    refine b_eq (x := 4) (by decide) ?_
    refine f_il 0 rfl hL rfl ?_
    refine f_s [fi (5), fi (20), fi (4), fi (k), fi (y), fi (x), .ref 55] rfl rfl ?_
    refine f_irem rfl (by decide) (by decide) (by decide) (by decide) ?_
    refine b_eq (x := 0) (by decide) ?_
    refine m_k1 (t180 (a := 4) (b := 0) (by decide) (by decide) x1 y1 k1 hwv h0 h1 h2) hw hm rfl rfl rfl (m_ar so55 hw rfl) rfl (fun hc5 hw5 hm5 => ?_)
    refine f_if rfl (bI_r _) (fun c1 => ?_) (fun c1 => ?_)
    · have c1 : (bI (rR0 w f1 f2 4 0) : Int) = (0 : Int) := c1
      refine f_inc 0 [(7, fi (21)), (5, fi (n)), (6, fi (f)), (0, .ref 55), (1, fi (x)), (2, fi (y)), (3, fi (k)), (4, fi (t))] rfl (by decide) hL rfl rfl (fun L29 hL29 => ?_)
      refine f_goto rfl ?_
      have eC : lC (rl20 w f1 f2) n = lC (rl21 w f1 f2) n := by
        show lC (rl21 w f1 f2) (n + bI (rR0 w f1 f2 4 0)) = _
        rw [bI0 c1]
        show lC (rl21 w f1 f2) (n + 0) = _
        rw [Int.add_zero]
      have eM : lM (rl20 w f1 f2) n f = lM (rl21 w f1 f2) n f := if_neg (by rw [bI0 c1]; decide)
      rw [eC, eM]
      exact hK21 hc5 _ _ _ hw5 hm5 (by omega) (hL29.sel [0, 1, 2, 3, 4, 5, 6, 7] rfl)
    · have c1 : ¬ ((bI (rR0 w f1 f2 4 0) : Int) = (0 : Int)) := c1
      refine f_il 1 rfl hL rfl ?_
      refine f_if rfl (by omega) (fun c2 => ?_) (fun c2 => ?_)
      · have c2 : ¬ (n : Int) = (0 : Int) := c2
        refine f_il 2 rfl hL rfl ?_
        refine f_ist [(6, fi (f)), (7, fi (20)), (5, fi (n)), (0, .ref 55), (1, fi (x)), (2, fi (y)), (3, fi (k)), (4, fi (t))] rfl (by decide) hL rfl (fun L30 hL30 => ?_)
        refine f_inc 2 [(5, fi (n + 1)), (6, fi (f)), (7, fi (20)), (0, .ref 55), (1, fi (x)), (2, fi (y)), (3, fi (k)), (4, fi (t))] rfl (by decide) hL30 rfl rfl (fun L31 hL31 => ?_)
        refine f_inc 2 [(7, fi (21)), (5, fi (n + 1)), (6, fi (f)), (0, .ref 55), (1, fi (x)), (2, fi (y)), (3, fi (k)), (4, fi (t))] rfl (by decide) hL31 rfl rfl (fun L32 hL32 => ?_)
        refine f_goto rfl ?_
        have eC : lC (rl20 w f1 f2) n = lC (rl21 w f1 f2) (n + 1) := by
          show lC (rl21 w f1 f2) (n + bI (rR0 w f1 f2 4 0)) = _
          rw [bI1 c1]
          rfl
        have eM : lM (rl20 w f1 f2) n f = lM (rl21 w f1 f2) (n + 1) (f) := (if_pos (bI1 c1)).trans (by rw [if_neg (show ¬ n = 0 by omega)])
        rw [eC, eM]
        exact hK21 hc5 _ _ _ hw5 hm5 (by omega) (hL32.sel [0, 1, 2, 3, 4, 5, 6, 7] rfl)
      · have c2 : ¬ (¬ (n : Int) = (0 : Int)) := c2
        refine f_bipush (n := 10) rfl (by decide) ?_
        refine f_il 0 rfl hL rfl ?_
        refine f_s [fi (5), fi (20), fi (10)] rfl rfl ?_
        refine f_idiv rfl (by decide) (by decide) (by decide) (by decide) ?_
        refine b_eq (x := 4) (by decide) ?_
        refine f_imul rfl ?_
        refine b_eq (x := 40) (by decide) ?_
        refine f_il 0 rfl hL rfl ?_
        refine f_s [fi (5), fi (20), fi (40)] rfl rfl ?_
        refine f_irem rfl (by decide) (by decide) (by decide) (by decide) ?_
        refine b_eq (x := 0) (by decide) ?_
        refine f_iadd rfl ?_
        refine b_eq (x := 40) (by decide) ?_
        refine f_goto rfl ?_
        refine f_ist [(6, fi (40)), (7, fi (20)), (5, fi (n)), (0, .ref 55), (1, fi (x)), (2, fi (y)), (3, fi (k)), (4, fi (t))] rfl (by decide) hL rfl (fun L33 hL33 => ?_)
        refine f_inc 2 [(5, fi (n + 1)), (6, fi (40)), (7, fi (20)), (0, .ref 55), (1, fi (x)), (2, fi (y)), (3, fi (k)), (4, fi (t))] rfl (by decide) hL33 rfl rfl (fun L34 hL34 => ?_)
        refine f_inc 2 [(7, fi (21)), (5, fi (n + 1)), (6, fi (40)), (0, .ref 55), (1, fi (x)), (2, fi (y)), (3, fi (k)), (4, fi (t))] rfl (by decide) hL34 rfl rfl (fun L35 hL35 => ?_)
        refine f_goto rfl ?_
        have eC : lC (rl20 w f1 f2) n = lC (rl21 w f1 f2) (n + 1) := by
          show lC (rl21 w f1 f2) (n + bI (rR0 w f1 f2 4 0)) = _
          rw [bI1 c1]
          rfl
        have eM : lM (rl20 w f1 f2) n f = lM (rl21 w f1 f2) (n + 1) (40) := (if_pos (bI1 c1)).trans (by rw [if_pos (show n = 0 by omega)])
        rw [eC, eM]
        exact hK21 hc5 _ _ _ hw5 hm5 (by omega) (hL35.sel [0, 1, 2, 3, 4, 5, 6, 7] rfl)
  have hK19 : ∀ (hc : ev_H) (n f : Int) (L : ev_L), y_in yGw hc → gi hc = m → (0 ≤ n ∧ n ≤ 19) → f_L L [(7, fi (19)), (5, fi (n)), (6, fi (f)), (0, .ref 55), (1, fi (x)), (2, fi (y)), (3, fi (k)), (4, fi (t))] → x_W none (1, 0, 8, 4, 11, 5, 122, 0, 0, ev_t181) 55 L [] hc 0 0 (fun r' h' => r' = some (fi (if t = 0 then lC (rl19 w f1 f2) n else lM (rl19 w f1 f2) n f)) ∧ y_in yGw h' ∧ gi h' = m) := fun hc n f L hw hm rn hL => by
    refine f_il 0 rfl hL rfl ?_
    refine f_bipush (n := 25) rfl (by decide) ?_
    refine f_ic rfl (by decide) (by decide) (fun c_9 => absurd (show (25 : Int) ≤ (19 : Int) from c_9) (by decide)) (fun _ => ?_)
    refine f_aln 3 rfl hL rfl ?_
    refine f_iln 4 rfl hL rfl ?_
    refine f_iln 5 rfl hL rfl ?_
    refine f_iln 6 rfl hL rfl ?_
    refine f_il 0 rfl hL rfl ?_
    refine f_s [fi (5), fi (19), fi (k), fi (y), fi (x), .ref 55] rfl rfl ?_
    refine f_idiv rfl (by decide) (by decide) (by decide) (by decide) ?_
    refine b_eq (x := 3) (by decide) ?_
    refine f_il 0 rfl hL rfl ?_
    refine f_s [fi (5), fi (19), fi (3), fi (k), fi (y), fi (x), .ref 55] rfl rfl ?_
    refine f_irem rfl (by decide) (by decide) (by decide) (by decide) ?_
    refine b_eq (x := 4) (by decide) ?_
    refine m_k1 (t180 (a := 3) (b := 4) (by decide) (by decide) x1 y1 k1 hwv h0 h1 h2) hw hm rfl rfl rfl (m_ar so55 hw rfl) rfl (fun hc6 hw6 hm6 => ?_)
    refine f_if rfl (bI_r _) (fun c1 => ?_) (fun c1 => ?_)
    · have c1 : (bI (rR0 w f1 f2 3 4) : Int) = (0 : Int) := c1
      refine f_inc 0 [(7, fi (20)), (5, fi (n)), (6, fi (f)), (0, .ref 55), (1, fi (x)), (2, fi (y)), (3, fi (k)), (4, fi (t))] rfl (by decide) hL rfl rfl (fun L36 hL36 => ?_)
      refine f_goto rfl ?_
      have eC : lC (rl19 w f1 f2) n = lC (rl20 w f1 f2) n := by
        show lC (rl20 w f1 f2) (n + bI (rR0 w f1 f2 3 4)) = _
        rw [bI0 c1]
        show lC (rl20 w f1 f2) (n + 0) = _
        rw [Int.add_zero]
      have eM : lM (rl19 w f1 f2) n f = lM (rl20 w f1 f2) n f := if_neg (by rw [bI0 c1]; decide)
      rw [eC, eM]
      exact hK20 hc6 _ _ _ hw6 hm6 (by omega) (hL36.sel [0, 1, 2, 3, 4, 5, 6, 7] rfl)
    · have c1 : ¬ ((bI (rR0 w f1 f2 3 4) : Int) = (0 : Int)) := c1
      refine f_il 1 rfl hL rfl ?_
      refine f_if rfl (by omega) (fun c2 => ?_) (fun c2 => ?_)
      · have c2 : ¬ (n : Int) = (0 : Int) := c2
        refine f_il 2 rfl hL rfl ?_
        refine f_ist [(6, fi (f)), (7, fi (19)), (5, fi (n)), (0, .ref 55), (1, fi (x)), (2, fi (y)), (3, fi (k)), (4, fi (t))] rfl (by decide) hL rfl (fun L37 hL37 => ?_)
        refine f_inc 2 [(5, fi (n + 1)), (6, fi (f)), (7, fi (19)), (0, .ref 55), (1, fi (x)), (2, fi (y)), (3, fi (k)), (4, fi (t))] rfl (by decide) hL37 rfl rfl (fun L38 hL38 => ?_)
        refine f_inc 2 [(7, fi (20)), (5, fi (n + 1)), (6, fi (f)), (0, .ref 55), (1, fi (x)), (2, fi (y)), (3, fi (k)), (4, fi (t))] rfl (by decide) hL38 rfl rfl (fun L39 hL39 => ?_)
        refine f_goto rfl ?_
        have eC : lC (rl19 w f1 f2) n = lC (rl20 w f1 f2) (n + 1) := by
          show lC (rl20 w f1 f2) (n + bI (rR0 w f1 f2 3 4)) = _
          rw [bI1 c1]
          rfl
        have eM : lM (rl19 w f1 f2) n f = lM (rl20 w f1 f2) (n + 1) (f) := (if_pos (bI1 c1)).trans (by rw [if_neg (show ¬ n = 0 by omega)])
        rw [eC, eM]
        exact hK20 hc6 _ _ _ hw6 hm6 (by omega) (hL39.sel [0, 1, 2, 3, 4, 5, 6, 7] rfl)
      · have c2 : ¬ (¬ (n : Int) = (0 : Int)) := c2
        refine f_bipush (n := 10) rfl (by decide) ?_
        refine f_il 0 rfl hL rfl ?_
        refine f_s [fi (5), fi (19), fi (10)] rfl rfl ?_
        refine f_idiv rfl (by decide) (by decide) (by decide) (by decide) ?_
        refine b_eq (x := 3) (by decide) ?_
        refine f_imul rfl ?_
        refine b_eq (x := 30) (by decide) ?_
        refine f_il 0 rfl hL rfl ?_
        refine f_s [fi (5), fi (19), fi (30)] rfl rfl ?_
        refine f_irem rfl (by decide) (by decide) (by decide) (by decide) ?_
        refine b_eq (x := 4) (by decide) ?_
        refine f_iadd rfl ?_
        refine b_eq (x := 34) (by decide) ?_
        refine f_goto rfl ?_
        refine f_ist [(6, fi (34)), (7, fi (19)), (5, fi (n)), (0, .ref 55), (1, fi (x)), (2, fi (y)), (3, fi (k)), (4, fi (t))] rfl (by decide) hL rfl (fun L40 hL40 => ?_)
        refine f_inc 2 [(5, fi (n + 1)), (6, fi (34)), (7, fi (19)), (0, .ref 55), (1, fi (x)), (2, fi (y)), (3, fi (k)), (4, fi (t))] rfl (by decide) hL40 rfl rfl (fun L41 hL41 => ?_)
        refine f_inc 2 [(7, fi (20)), (5, fi (n + 1)), (6, fi (34)), (0, .ref 55), (1, fi (x)), (2, fi (y)), (3, fi (k)), (4, fi (t))] rfl (by decide) hL41 rfl rfl (fun L42 hL42 => ?_)
        refine f_goto rfl ?_
        have eC : lC (rl19 w f1 f2) n = lC (rl20 w f1 f2) (n + 1) := by
          show lC (rl20 w f1 f2) (n + bI (rR0 w f1 f2 3 4)) = _
          rw [bI1 c1]
          rfl
        have eM : lM (rl19 w f1 f2) n f = lM (rl20 w f1 f2) (n + 1) (34) := (if_pos (bI1 c1)).trans (by rw [if_pos (show n = 0 by omega)])
        rw [eC, eM]
        exact hK20 hc6 _ _ _ hw6 hm6 (by omega) (hL42.sel [0, 1, 2, 3, 4, 5, 6, 7] rfl)
  have hK18 : ∀ (hc : ev_H) (n f : Int) (L : ev_L), y_in yGw hc → gi hc = m → (0 ≤ n ∧ n ≤ 18) → f_L L [(7, fi (18)), (5, fi (n)), (6, fi (f)), (0, .ref 55), (1, fi (x)), (2, fi (y)), (3, fi (k)), (4, fi (t))] → x_W none (1, 0, 8, 4, 11, 5, 122, 0, 0, ev_t181) 55 L [] hc 0 0 (fun r' h' => r' = some (fi (if t = 0 then lC (rl18 w f1 f2) n else lM (rl18 w f1 f2) n f)) ∧ y_in yGw h' ∧ gi h' = m) := fun hc n f L hw hm rn hL => by
    refine f_il 0 rfl hL rfl ?_
    refine f_bipush (n := 25) rfl (by decide) ?_
    refine f_ic rfl (by decide) (by decide) (fun c_9 => absurd (show (25 : Int) ≤ (18 : Int) from c_9) (by decide)) (fun _ => ?_)
    refine f_aln 3 rfl hL rfl ?_
    refine f_iln 4 rfl hL rfl ?_
    refine f_iln 5 rfl hL rfl ?_
    refine f_iln 6 rfl hL rfl ?_
    refine f_il 0 rfl hL rfl ?_
    refine f_s [fi (5), fi (18), fi (k), fi (y), fi (x), .ref 55] rfl rfl ?_
    refine f_idiv rfl (by decide) (by decide) (by decide) (by decide) ?_
    refine b_eq (x := 3) (by decide) ?_
    refine f_il 0 rfl hL rfl ?_
    refine f_s [fi (5), fi (18), fi (3), fi (k), fi (y), fi (x), .ref 55] rfl rfl ?_
    refine f_irem rfl (by decide) (by decide) (by decide) (by decide) ?_
    refine b_eq (x := 3) (by decide) ?_
    refine m_k1 (t180 (a := 3) (b := 3) (by decide) (by decide) x1 y1 k1 hwv h0 h1 h2) hw hm rfl rfl rfl (m_ar so55 hw rfl) rfl (fun hc7 hw7 hm7 => ?_)
    refine f_if rfl (bI_r _) (fun c1 => ?_) (fun c1 => ?_)
    · have c1 : (bI (rR0 w f1 f2 3 3) : Int) = (0 : Int) := c1
      refine f_inc 0 [(7, fi (19)), (5, fi (n)), (6, fi (f)), (0, .ref 55), (1, fi (x)), (2, fi (y)), (3, fi (k)), (4, fi (t))] rfl (by decide) hL rfl rfl (fun L43 hL43 => ?_)
      refine f_goto rfl ?_
      have eC : lC (rl18 w f1 f2) n = lC (rl19 w f1 f2) n := by
        show lC (rl19 w f1 f2) (n + bI (rR0 w f1 f2 3 3)) = _
        rw [bI0 c1]
        show lC (rl19 w f1 f2) (n + 0) = _
        rw [Int.add_zero]
      have eM : lM (rl18 w f1 f2) n f = lM (rl19 w f1 f2) n f := if_neg (by rw [bI0 c1]; decide)
      rw [eC, eM]
      exact hK19 hc7 _ _ _ hw7 hm7 (by omega) (hL43.sel [0, 1, 2, 3, 4, 5, 6, 7] rfl)
    · have c1 : ¬ ((bI (rR0 w f1 f2 3 3) : Int) = (0 : Int)) := c1
      refine f_il 1 rfl hL rfl ?_
      refine f_if rfl (by omega) (fun c2 => ?_) (fun c2 => ?_)
      · have c2 : ¬ (n : Int) = (0 : Int) := c2
        refine f_il 2 rfl hL rfl ?_
        refine f_ist [(6, fi (f)), (7, fi (18)), (5, fi (n)), (0, .ref 55), (1, fi (x)), (2, fi (y)), (3, fi (k)), (4, fi (t))] rfl (by decide) hL rfl (fun L44 hL44 => ?_)
        refine f_inc 2 [(5, fi (n + 1)), (6, fi (f)), (7, fi (18)), (0, .ref 55), (1, fi (x)), (2, fi (y)), (3, fi (k)), (4, fi (t))] rfl (by decide) hL44 rfl rfl (fun L45 hL45 => ?_)
        refine f_inc 2 [(7, fi (19)), (5, fi (n + 1)), (6, fi (f)), (0, .ref 55), (1, fi (x)), (2, fi (y)), (3, fi (k)), (4, fi (t))] rfl (by decide) hL45 rfl rfl (fun L46 hL46 => ?_)
        refine f_goto rfl ?_
        have eC : lC (rl18 w f1 f2) n = lC (rl19 w f1 f2) (n + 1) := by
          show lC (rl19 w f1 f2) (n + bI (rR0 w f1 f2 3 3)) = _
          rw [bI1 c1]
          rfl
        have eM : lM (rl18 w f1 f2) n f = lM (rl19 w f1 f2) (n + 1) (f) := (if_pos (bI1 c1)).trans (by rw [if_neg (show ¬ n = 0 by omega)])
        rw [eC, eM]
        exact hK19 hc7 _ _ _ hw7 hm7 (by omega) (hL46.sel [0, 1, 2, 3, 4, 5, 6, 7] rfl)
      · have c2 : ¬ (¬ (n : Int) = (0 : Int)) := c2
        refine f_bipush (n := 10) rfl (by decide) ?_
        refine f_il 0 rfl hL rfl ?_
        refine f_s [fi (5), fi (18), fi (10)] rfl rfl ?_
        refine f_idiv rfl (by decide) (by decide) (by decide) (by decide) ?_
        refine b_eq (x := 3) (by decide) ?_
        refine f_imul rfl ?_
        refine b_eq (x := 30) (by decide) ?_
        refine f_il 0 rfl hL rfl ?_
        refine f_s [fi (5), fi (18), fi (30)] rfl rfl ?_
        refine f_irem rfl (by decide) (by decide) (by decide) (by decide) ?_
        refine b_eq (x := 3) (by decide) ?_
        refine f_iadd rfl ?_
        refine b_eq (x := 33) (by decide) ?_
        refine f_goto rfl ?_
        refine f_ist [(6, fi (33)), (7, fi (18)), (5, fi (n)), (0, .ref 55), (1, fi (x)), (2, fi (y)), (3, fi (k)), (4, fi (t))] rfl (by decide) hL rfl (fun L47 hL47 => ?_)
        refine f_inc 2 [(5, fi (n + 1)), (6, fi (33)), (7, fi (18)), (0, .ref 55), (1, fi (x)), (2, fi (y)), (3, fi (k)), (4, fi (t))] rfl (by decide) hL47 rfl rfl (fun L48 hL48 => ?_)
        refine f_inc 2 [(7, fi (19)), (5, fi (n + 1)), (6, fi (33)), (0, .ref 55), (1, fi (x)), (2, fi (y)), (3, fi (k)), (4, fi (t))] rfl (by decide) hL48 rfl rfl (fun L49 hL49 => ?_)
        refine f_goto rfl ?_
        have eC : lC (rl18 w f1 f2) n = lC (rl19 w f1 f2) (n + 1) := by
          show lC (rl19 w f1 f2) (n + bI (rR0 w f1 f2 3 3)) = _
          rw [bI1 c1]
          rfl
        have eM : lM (rl18 w f1 f2) n f = lM (rl19 w f1 f2) (n + 1) (33) := (if_pos (bI1 c1)).trans (by rw [if_pos (show n = 0 by omega)])
        rw [eC, eM]
        exact hK19 hc7 _ _ _ hw7 hm7 (by omega) (hL49.sel [0, 1, 2, 3, 4, 5, 6, 7] rfl)
  have hK17 : ∀ (hc : ev_H) (n f : Int) (L : ev_L), y_in yGw hc → gi hc = m → (0 ≤ n ∧ n ≤ 17) → f_L L [(7, fi (17)), (5, fi (n)), (6, fi (f)), (0, .ref 55), (1, fi (x)), (2, fi (y)), (3, fi (k)), (4, fi (t))] → x_W none (1, 0, 8, 4, 11, 5, 122, 0, 0, ev_t181) 55 L [] hc 0 0 (fun r' h' => r' = some (fi (if t = 0 then lC (rl17 w f1 f2) n else lM (rl17 w f1 f2) n f)) ∧ y_in yGw h' ∧ gi h' = m) := fun hc n f L hw hm rn hL => by
    refine f_il 0 rfl hL rfl ?_
    refine f_bipush (n := 25) rfl (by decide) ?_
    refine f_ic rfl (by decide) (by decide) (fun c_9 => absurd (show (25 : Int) ≤ (17 : Int) from c_9) (by decide)) (fun _ => ?_)
    refine f_aln 3 rfl hL rfl ?_
    refine f_iln 4 rfl hL rfl ?_
    refine f_iln 5 rfl hL rfl ?_
    refine f_iln 6 rfl hL rfl ?_
    refine f_il 0 rfl hL rfl ?_
    refine f_s [fi (5), fi (17), fi (k), fi (y), fi (x), .ref 55] rfl rfl ?_
    refine f_idiv rfl (by decide) (by decide) (by decide) (by decide) ?_
    refine b_eq (x := 3) (by decide) ?_
    refine f_il 0 rfl hL rfl ?_
    refine f_s [fi (5), fi (17), fi (3), fi (k), fi (y), fi (x), .ref 55] rfl rfl ?_
    refine f_irem rfl (by decide) (by decide) (by decide) (by decide) ?_
    refine b_eq (x := 2) (by decide) ?_
    refine m_k1 (t180 (a := 3) (b := 2) (by decide) (by decide) x1 y1 k1 hwv h0 h1 h2) hw hm rfl rfl rfl (m_ar so55 hw rfl) rfl (fun hc8 hw8 hm8 => ?_)
    refine f_if rfl (bI_r _) (fun c1 => ?_) (fun c1 => ?_)
    · have c1 : (bI (rR0 w f1 f2 3 2) : Int) = (0 : Int) := c1
      refine f_inc 0 [(7, fi (18)), (5, fi (n)), (6, fi (f)), (0, .ref 55), (1, fi (x)), (2, fi (y)), (3, fi (k)), (4, fi (t))] rfl (by decide) hL rfl rfl (fun L50 hL50 => ?_)
      refine f_goto rfl ?_
      have eC : lC (rl17 w f1 f2) n = lC (rl18 w f1 f2) n := by
        show lC (rl18 w f1 f2) (n + bI (rR0 w f1 f2 3 2)) = _
        rw [bI0 c1]
        show lC (rl18 w f1 f2) (n + 0) = _
        rw [Int.add_zero]
      have eM : lM (rl17 w f1 f2) n f = lM (rl18 w f1 f2) n f := if_neg (by rw [bI0 c1]; decide)
      rw [eC, eM]
      exact hK18 hc8 _ _ _ hw8 hm8 (by omega) (hL50.sel [0, 1, 2, 3, 4, 5, 6, 7] rfl)
    · have c1 : ¬ ((bI (rR0 w f1 f2 3 2) : Int) = (0 : Int)) := c1
      refine f_il 1 rfl hL rfl ?_
      refine f_if rfl (by omega) (fun c2 => ?_) (fun c2 => ?_)
      · have c2 : ¬ (n : Int) = (0 : Int) := c2
        refine f_il 2 rfl hL rfl ?_
        refine f_ist [(6, fi (f)), (7, fi (17)), (5, fi (n)), (0, .ref 55), (1, fi (x)), (2, fi (y)), (3, fi (k)), (4, fi (t))] rfl (by decide) hL rfl (fun L51 hL51 => ?_)
        refine f_inc 2 [(5, fi (n + 1)), (6, fi (f)), (7, fi (17)), (0, .ref 55), (1, fi (x)), (2, fi (y)), (3, fi (k)), (4, fi (t))] rfl (by decide) hL51 rfl rfl (fun L52 hL52 => ?_)
        refine f_inc 2 [(7, fi (18)), (5, fi (n + 1)), (6, fi (f)), (0, .ref 55), (1, fi (x)), (2, fi (y)), (3, fi (k)), (4, fi (t))] rfl (by decide) hL52 rfl rfl (fun L53 hL53 => ?_)
        refine f_goto rfl ?_
        have eC : lC (rl17 w f1 f2) n = lC (rl18 w f1 f2) (n + 1) := by
          show lC (rl18 w f1 f2) (n + bI (rR0 w f1 f2 3 2)) = _
          rw [bI1 c1]
          rfl
        have eM : lM (rl17 w f1 f2) n f = lM (rl18 w f1 f2) (n + 1) (f) := (if_pos (bI1 c1)).trans (by rw [if_neg (show ¬ n = 0 by omega)])
        rw [eC, eM]
        exact hK18 hc8 _ _ _ hw8 hm8 (by omega) (hL53.sel [0, 1, 2, 3, 4, 5, 6, 7] rfl)
      · have c2 : ¬ (¬ (n : Int) = (0 : Int)) := c2
        refine f_bipush (n := 10) rfl (by decide) ?_
        refine f_il 0 rfl hL rfl ?_
        refine f_s [fi (5), fi (17), fi (10)] rfl rfl ?_
        refine f_idiv rfl (by decide) (by decide) (by decide) (by decide) ?_
        refine b_eq (x := 3) (by decide) ?_
        refine f_imul rfl ?_
        refine b_eq (x := 30) (by decide) ?_
        refine f_il 0 rfl hL rfl ?_
        refine f_s [fi (5), fi (17), fi (30)] rfl rfl ?_
        refine f_irem rfl (by decide) (by decide) (by decide) (by decide) ?_
        refine b_eq (x := 2) (by decide) ?_
        refine f_iadd rfl ?_
        refine b_eq (x := 32) (by decide) ?_
        refine f_goto rfl ?_
        refine f_ist [(6, fi (32)), (7, fi (17)), (5, fi (n)), (0, .ref 55), (1, fi (x)), (2, fi (y)), (3, fi (k)), (4, fi (t))] rfl (by decide) hL rfl (fun L54 hL54 => ?_)
        refine f_inc 2 [(5, fi (n + 1)), (6, fi (32)), (7, fi (17)), (0, .ref 55), (1, fi (x)), (2, fi (y)), (3, fi (k)), (4, fi (t))] rfl (by decide) hL54 rfl rfl (fun L55 hL55 => ?_)
        refine f_inc 2 [(7, fi (18)), (5, fi (n + 1)), (6, fi (32)), (0, .ref 55), (1, fi (x)), (2, fi (y)), (3, fi (k)), (4, fi (t))] rfl (by decide) hL55 rfl rfl (fun L56 hL56 => ?_)
        refine f_goto rfl ?_
        have eC : lC (rl17 w f1 f2) n = lC (rl18 w f1 f2) (n + 1) := by
          show lC (rl18 w f1 f2) (n + bI (rR0 w f1 f2 3 2)) = _
          rw [bI1 c1]
          rfl
        have eM : lM (rl17 w f1 f2) n f = lM (rl18 w f1 f2) (n + 1) (32) := (if_pos (bI1 c1)).trans (by rw [if_pos (show n = 0 by omega)])
        rw [eC, eM]
        exact hK18 hc8 _ _ _ hw8 hm8 (by omega) (hL56.sel [0, 1, 2, 3, 4, 5, 6, 7] rfl)
  have hK16 : ∀ (hc : ev_H) (n f : Int) (L : ev_L), y_in yGw hc → gi hc = m → (0 ≤ n ∧ n ≤ 16) → f_L L [(7, fi (16)), (5, fi (n)), (6, fi (f)), (0, .ref 55), (1, fi (x)), (2, fi (y)), (3, fi (k)), (4, fi (t))] → x_W none (1, 0, 8, 4, 11, 5, 122, 0, 0, ev_t181) 55 L [] hc 0 0 (fun r' h' => r' = some (fi (if t = 0 then lC (rl16 w f1 f2) n else lM (rl16 w f1 f2) n f)) ∧ y_in yGw h' ∧ gi h' = m) := fun hc n f L hw hm rn hL => by
    refine f_il 0 rfl hL rfl ?_
    refine f_bipush (n := 25) rfl (by decide) ?_
    refine f_ic rfl (by decide) (by decide) (fun c_9 => absurd (show (25 : Int) ≤ (16 : Int) from c_9) (by decide)) (fun _ => ?_)
    refine f_aln 3 rfl hL rfl ?_
    refine f_iln 4 rfl hL rfl ?_
    refine f_iln 5 rfl hL rfl ?_
    refine f_iln 6 rfl hL rfl ?_
    refine f_il 0 rfl hL rfl ?_
    refine f_s [fi (5), fi (16), fi (k), fi (y), fi (x), .ref 55] rfl rfl ?_
    refine f_idiv rfl (by decide) (by decide) (by decide) (by decide) ?_
    refine b_eq (x := 3) (by decide) ?_
    refine f_il 0 rfl hL rfl ?_
    refine f_s [fi (5), fi (16), fi (3), fi (k), fi (y), fi (x), .ref 55] rfl rfl ?_
    refine f_irem rfl (by decide) (by decide) (by decide) (by decide) ?_
    refine b_eq (x := 1) (by decide) ?_
    refine m_k1 (t180 (a := 3) (b := 1) (by decide) (by decide) x1 y1 k1 hwv h0 h1 h2) hw hm rfl rfl rfl (m_ar so55 hw rfl) rfl (fun hc9 hw9 hm9 => ?_)
    refine f_if rfl (bI_r _) (fun c1 => ?_) (fun c1 => ?_)
    · have c1 : (bI (rR0 w f1 f2 3 1) : Int) = (0 : Int) := c1
      refine f_inc 0 [(7, fi (17)), (5, fi (n)), (6, fi (f)), (0, .ref 55), (1, fi (x)), (2, fi (y)), (3, fi (k)), (4, fi (t))] rfl (by decide) hL rfl rfl (fun L57 hL57 => ?_)
      refine f_goto rfl ?_
      have eC : lC (rl16 w f1 f2) n = lC (rl17 w f1 f2) n := by
        show lC (rl17 w f1 f2) (n + bI (rR0 w f1 f2 3 1)) = _
        rw [bI0 c1]
        show lC (rl17 w f1 f2) (n + 0) = _
        rw [Int.add_zero]
      have eM : lM (rl16 w f1 f2) n f = lM (rl17 w f1 f2) n f := if_neg (by rw [bI0 c1]; decide)
      rw [eC, eM]
      exact hK17 hc9 _ _ _ hw9 hm9 (by omega) (hL57.sel [0, 1, 2, 3, 4, 5, 6, 7] rfl)
    · have c1 : ¬ ((bI (rR0 w f1 f2 3 1) : Int) = (0 : Int)) := c1
      refine f_il 1 rfl hL rfl ?_
      refine f_if rfl (by omega) (fun c2 => ?_) (fun c2 => ?_)
      · have c2 : ¬ (n : Int) = (0 : Int) := c2
        refine f_il 2 rfl hL rfl ?_
        refine f_ist [(6, fi (f)), (7, fi (16)), (5, fi (n)), (0, .ref 55), (1, fi (x)), (2, fi (y)), (3, fi (k)), (4, fi (t))] rfl (by decide) hL rfl (fun L58 hL58 => ?_)
        refine f_inc 2 [(5, fi (n + 1)), (6, fi (f)), (7, fi (16)), (0, .ref 55), (1, fi (x)), (2, fi (y)), (3, fi (k)), (4, fi (t))] rfl (by decide) hL58 rfl rfl (fun L59 hL59 => ?_)
        refine f_inc 2 [(7, fi (17)), (5, fi (n + 1)), (6, fi (f)), (0, .ref 55), (1, fi (x)), (2, fi (y)), (3, fi (k)), (4, fi (t))] rfl (by decide) hL59 rfl rfl (fun L60 hL60 => ?_)
        refine f_goto rfl ?_
        have eC : lC (rl16 w f1 f2) n = lC (rl17 w f1 f2) (n + 1) := by
          show lC (rl17 w f1 f2) (n + bI (rR0 w f1 f2 3 1)) = _
          rw [bI1 c1]
          rfl
        have eM : lM (rl16 w f1 f2) n f = lM (rl17 w f1 f2) (n + 1) (f) := (if_pos (bI1 c1)).trans (by rw [if_neg (show ¬ n = 0 by omega)])
        rw [eC, eM]
        exact hK17 hc9 _ _ _ hw9 hm9 (by omega) (hL60.sel [0, 1, 2, 3, 4, 5, 6, 7] rfl)
      · have c2 : ¬ (¬ (n : Int) = (0 : Int)) := c2
        refine f_bipush (n := 10) rfl (by decide) ?_
        refine f_il 0 rfl hL rfl ?_
        refine f_s [fi (5), fi (16), fi (10)] rfl rfl ?_
        refine f_idiv rfl (by decide) (by decide) (by decide) (by decide) ?_
        refine b_eq (x := 3) (by decide) ?_
        refine f_imul rfl ?_
        refine b_eq (x := 30) (by decide) ?_
        refine f_il 0 rfl hL rfl ?_
        refine f_s [fi (5), fi (16), fi (30)] rfl rfl ?_
        refine f_irem rfl (by decide) (by decide) (by decide) (by decide) ?_
        refine b_eq (x := 1) (by decide) ?_
        refine f_iadd rfl ?_
        refine b_eq (x := 31) (by decide) ?_
        refine f_goto rfl ?_
        refine f_ist [(6, fi (31)), (7, fi (16)), (5, fi (n)), (0, .ref 55), (1, fi (x)), (2, fi (y)), (3, fi (k)), (4, fi (t))] rfl (by decide) hL rfl (fun L61 hL61 => ?_)
        refine f_inc 2 [(5, fi (n + 1)), (6, fi (31)), (7, fi (16)), (0, .ref 55), (1, fi (x)), (2, fi (y)), (3, fi (k)), (4, fi (t))] rfl (by decide) hL61 rfl rfl (fun L62 hL62 => ?_)
        refine f_inc 2 [(7, fi (17)), (5, fi (n + 1)), (6, fi (31)), (0, .ref 55), (1, fi (x)), (2, fi (y)), (3, fi (k)), (4, fi (t))] rfl (by decide) hL62 rfl rfl (fun L63 hL63 => ?_)
        refine f_goto rfl ?_
        have eC : lC (rl16 w f1 f2) n = lC (rl17 w f1 f2) (n + 1) := by
          show lC (rl17 w f1 f2) (n + bI (rR0 w f1 f2 3 1)) = _
          rw [bI1 c1]
          rfl
        have eM : lM (rl16 w f1 f2) n f = lM (rl17 w f1 f2) (n + 1) (31) := (if_pos (bI1 c1)).trans (by rw [if_pos (show n = 0 by omega)])
        rw [eC, eM]
        exact hK17 hc9 _ _ _ hw9 hm9 (by omega) (hL63.sel [0, 1, 2, 3, 4, 5, 6, 7] rfl)
  have hK15 : ∀ (hc : ev_H) (n f : Int) (L : ev_L), y_in yGw hc → gi hc = m → (0 ≤ n ∧ n ≤ 15) → f_L L [(7, fi (15)), (5, fi (n)), (6, fi (f)), (0, .ref 55), (1, fi (x)), (2, fi (y)), (3, fi (k)), (4, fi (t))] → x_W none (1, 0, 8, 4, 11, 5, 122, 0, 0, ev_t181) 55 L [] hc 0 0 (fun r' h' => r' = some (fi (if t = 0 then lC (rl15 w f1 f2) n else lM (rl15 w f1 f2) n f)) ∧ y_in yGw h' ∧ gi h' = m) := fun hc n f L hw hm rn hL => by
    refine f_il 0 rfl hL rfl ?_
    refine f_bipush (n := 25) rfl (by decide) ?_
    refine f_ic rfl (by decide) (by decide) (fun c_9 => absurd (show (25 : Int) ≤ (15 : Int) from c_9) (by decide)) (fun _ => ?_)
    refine f_aln 3 rfl hL rfl ?_
    refine f_iln 4 rfl hL rfl ?_
    refine f_iln 5 rfl hL rfl ?_
    refine f_iln 6 rfl hL rfl ?_
    refine f_il 0 rfl hL rfl ?_
    refine f_s [fi (5), fi (15), fi (k), fi (y), fi (x), .ref 55] rfl rfl ?_
    refine f_idiv rfl (by decide) (by decide) (by decide) (by decide) ?_
    refine b_eq (x := 3) (by decide) ?_
    refine f_il 0 rfl hL rfl ?_
    refine f_s [fi (5), fi (15), fi (3), fi (k), fi (y), fi (x), .ref 55] rfl rfl ?_
    refine f_irem rfl (by decide) (by decide) (by decide) (by decide) ?_
    refine b_eq (x := 0) (by decide) ?_
    refine m_k1 (t180 (a := 3) (b := 0) (by decide) (by decide) x1 y1 k1 hwv h0 h1 h2) hw hm rfl rfl rfl (m_ar so55 hw rfl) rfl (fun hc10 hw10 hm10 => ?_)
    refine f_if rfl (bI_r _) (fun c1 => ?_) (fun c1 => ?_)
    · have c1 : (bI (rR0 w f1 f2 3 0) : Int) = (0 : Int) := c1
      refine f_inc 0 [(7, fi (16)), (5, fi (n)), (6, fi (f)), (0, .ref 55), (1, fi (x)), (2, fi (y)), (3, fi (k)), (4, fi (t))] rfl (by decide) hL rfl rfl (fun L64 hL64 => ?_)
      refine f_goto rfl ?_
      have eC : lC (rl15 w f1 f2) n = lC (rl16 w f1 f2) n := by
        show lC (rl16 w f1 f2) (n + bI (rR0 w f1 f2 3 0)) = _
        rw [bI0 c1]
        show lC (rl16 w f1 f2) (n + 0) = _
        rw [Int.add_zero]
      have eM : lM (rl15 w f1 f2) n f = lM (rl16 w f1 f2) n f := if_neg (by rw [bI0 c1]; decide)
      rw [eC, eM]
      exact hK16 hc10 _ _ _ hw10 hm10 (by omega) (hL64.sel [0, 1, 2, 3, 4, 5, 6, 7] rfl)
    · have c1 : ¬ ((bI (rR0 w f1 f2 3 0) : Int) = (0 : Int)) := c1
      refine f_il 1 rfl hL rfl ?_
      refine f_if rfl (by omega) (fun c2 => ?_) (fun c2 => ?_)
      · have c2 : ¬ (n : Int) = (0 : Int) := c2
        refine f_il 2 rfl hL rfl ?_
        refine f_ist [(6, fi (f)), (7, fi (15)), (5, fi (n)), (0, .ref 55), (1, fi (x)), (2, fi (y)), (3, fi (k)), (4, fi (t))] rfl (by decide) hL rfl (fun L65 hL65 => ?_)
        refine f_inc 2 [(5, fi (n + 1)), (6, fi (f)), (7, fi (15)), (0, .ref 55), (1, fi (x)), (2, fi (y)), (3, fi (k)), (4, fi (t))] rfl (by decide) hL65 rfl rfl (fun L66 hL66 => ?_)
        refine f_inc 2 [(7, fi (16)), (5, fi (n + 1)), (6, fi (f)), (0, .ref 55), (1, fi (x)), (2, fi (y)), (3, fi (k)), (4, fi (t))] rfl (by decide) hL66 rfl rfl (fun L67 hL67 => ?_)
        refine f_goto rfl ?_
        have eC : lC (rl15 w f1 f2) n = lC (rl16 w f1 f2) (n + 1) := by
          show lC (rl16 w f1 f2) (n + bI (rR0 w f1 f2 3 0)) = _
          rw [bI1 c1]
          rfl
        have eM : lM (rl15 w f1 f2) n f = lM (rl16 w f1 f2) (n + 1) (f) := (if_pos (bI1 c1)).trans (by rw [if_neg (show ¬ n = 0 by omega)])
        rw [eC, eM]
        exact hK16 hc10 _ _ _ hw10 hm10 (by omega) (hL67.sel [0, 1, 2, 3, 4, 5, 6, 7] rfl)
      · have c2 : ¬ (¬ (n : Int) = (0 : Int)) := c2
        refine f_bipush (n := 10) rfl (by decide) ?_
        refine f_il 0 rfl hL rfl ?_
        refine f_s [fi (5), fi (15), fi (10)] rfl rfl ?_
        refine f_idiv rfl (by decide) (by decide) (by decide) (by decide) ?_
        refine b_eq (x := 3) (by decide) ?_
        refine f_imul rfl ?_
        refine b_eq (x := 30) (by decide) ?_
        refine f_il 0 rfl hL rfl ?_
        refine f_s [fi (5), fi (15), fi (30)] rfl rfl ?_
        refine f_irem rfl (by decide) (by decide) (by decide) (by decide) ?_
        refine b_eq (x := 0) (by decide) ?_
        refine f_iadd rfl ?_
        refine b_eq (x := 30) (by decide) ?_
        refine f_goto rfl ?_
        refine f_ist [(6, fi (30)), (7, fi (15)), (5, fi (n)), (0, .ref 55), (1, fi (x)), (2, fi (y)), (3, fi (k)), (4, fi (t))] rfl (by decide) hL rfl (fun L68 hL68 => ?_)
        refine f_inc 2 [(5, fi (n + 1)), (6, fi (30)), (7, fi (15)), (0, .ref 55), (1, fi (x)), (2, fi (y)), (3, fi (k)), (4, fi (t))] rfl (by decide) hL68 rfl rfl (fun L69 hL69 => ?_)
        refine f_inc 2 [(7, fi (16)), (5, fi (n + 1)), (6, fi (30)), (0, .ref 55), (1, fi (x)), (2, fi (y)), (3, fi (k)), (4, fi (t))] rfl (by decide) hL69 rfl rfl (fun L70 hL70 => ?_)
        refine f_goto rfl ?_
        have eC : lC (rl15 w f1 f2) n = lC (rl16 w f1 f2) (n + 1) := by
          show lC (rl16 w f1 f2) (n + bI (rR0 w f1 f2 3 0)) = _
          rw [bI1 c1]
          rfl
        have eM : lM (rl15 w f1 f2) n f = lM (rl16 w f1 f2) (n + 1) (30) := (if_pos (bI1 c1)).trans (by rw [if_pos (show n = 0 by omega)])
        rw [eC, eM]
        exact hK16 hc10 _ _ _ hw10 hm10 (by omega) (hL70.sel [0, 1, 2, 3, 4, 5, 6, 7] rfl)
  have hK14 : ∀ (hc : ev_H) (n f : Int) (L : ev_L), y_in yGw hc → gi hc = m → (0 ≤ n ∧ n ≤ 14) → f_L L [(7, fi (14)), (5, fi (n)), (6, fi (f)), (0, .ref 55), (1, fi (x)), (2, fi (y)), (3, fi (k)), (4, fi (t))] → x_W none (1, 0, 8, 4, 11, 5, 122, 0, 0, ev_t181) 55 L [] hc 0 0 (fun r' h' => r' = some (fi (if t = 0 then lC (rl14 w f1 f2) n else lM (rl14 w f1 f2) n f)) ∧ y_in yGw h' ∧ gi h' = m) := fun hc n f L hw hm rn hL => by
    refine f_il 0 rfl hL rfl ?_
    refine f_bipush (n := 25) rfl (by decide) ?_
    refine f_ic rfl (by decide) (by decide) (fun c_9 => absurd (show (25 : Int) ≤ (14 : Int) from c_9) (by decide)) (fun _ => ?_)
    refine f_aln 3 rfl hL rfl ?_
    refine f_iln 4 rfl hL rfl ?_
    refine f_iln 5 rfl hL rfl ?_
    refine f_iln 6 rfl hL rfl ?_
    refine f_il 0 rfl hL rfl ?_
    refine f_s [fi (5), fi (14), fi (k), fi (y), fi (x), .ref 55] rfl rfl ?_
    refine f_idiv rfl (by decide) (by decide) (by decide) (by decide) ?_
    refine b_eq (x := 2) (by decide) ?_
    refine f_il 0 rfl hL rfl ?_
    refine f_s [fi (5), fi (14), fi (2), fi (k), fi (y), fi (x), .ref 55] rfl rfl ?_
    refine f_irem rfl (by decide) (by decide) (by decide) (by decide) ?_
    refine b_eq (x := 4) (by decide) ?_
    refine m_k1 (t180 (a := 2) (b := 4) (by decide) (by decide) x1 y1 k1 hwv h0 h1 h2) hw hm rfl rfl rfl (m_ar so55 hw rfl) rfl (fun hc11 hw11 hm11 => ?_)
    refine f_if rfl (bI_r _) (fun c1 => ?_) (fun c1 => ?_)
    · have c1 : (bI (rR0 w f1 f2 2 4) : Int) = (0 : Int) := c1
      refine f_inc 0 [(7, fi (15)), (5, fi (n)), (6, fi (f)), (0, .ref 55), (1, fi (x)), (2, fi (y)), (3, fi (k)), (4, fi (t))] rfl (by decide) hL rfl rfl (fun L71 hL71 => ?_)
      refine f_goto rfl ?_
      have eC : lC (rl14 w f1 f2) n = lC (rl15 w f1 f2) n := by
        show lC (rl15 w f1 f2) (n + bI (rR0 w f1 f2 2 4)) = _
        rw [bI0 c1]
        show lC (rl15 w f1 f2) (n + 0) = _
        rw [Int.add_zero]
      have eM : lM (rl14 w f1 f2) n f = lM (rl15 w f1 f2) n f := if_neg (by rw [bI0 c1]; decide)
      rw [eC, eM]
      exact hK15 hc11 _ _ _ hw11 hm11 (by omega) (hL71.sel [0, 1, 2, 3, 4, 5, 6, 7] rfl)
    · have c1 : ¬ ((bI (rR0 w f1 f2 2 4) : Int) = (0 : Int)) := c1
      refine f_il 1 rfl hL rfl ?_
      refine f_if rfl (by omega) (fun c2 => ?_) (fun c2 => ?_)
      · have c2 : ¬ (n : Int) = (0 : Int) := c2
        refine f_il 2 rfl hL rfl ?_
        refine f_ist [(6, fi (f)), (7, fi (14)), (5, fi (n)), (0, .ref 55), (1, fi (x)), (2, fi (y)), (3, fi (k)), (4, fi (t))] rfl (by decide) hL rfl (fun L72 hL72 => ?_)
        refine f_inc 2 [(5, fi (n + 1)), (6, fi (f)), (7, fi (14)), (0, .ref 55), (1, fi (x)), (2, fi (y)), (3, fi (k)), (4, fi (t))] rfl (by decide) hL72 rfl rfl (fun L73 hL73 => ?_)
        refine f_inc 2 [(7, fi (15)), (5, fi (n + 1)), (6, fi (f)), (0, .ref 55), (1, fi (x)), (2, fi (y)), (3, fi (k)), (4, fi (t))] rfl (by decide) hL73 rfl rfl (fun L74 hL74 => ?_)
        refine f_goto rfl ?_
        have eC : lC (rl14 w f1 f2) n = lC (rl15 w f1 f2) (n + 1) := by
          show lC (rl15 w f1 f2) (n + bI (rR0 w f1 f2 2 4)) = _
          rw [bI1 c1]
          rfl
        have eM : lM (rl14 w f1 f2) n f = lM (rl15 w f1 f2) (n + 1) (f) := (if_pos (bI1 c1)).trans (by rw [if_neg (show ¬ n = 0 by omega)])
        rw [eC, eM]
        exact hK15 hc11 _ _ _ hw11 hm11 (by omega) (hL74.sel [0, 1, 2, 3, 4, 5, 6, 7] rfl)
      · have c2 : ¬ (¬ (n : Int) = (0 : Int)) := c2
        refine f_bipush (n := 10) rfl (by decide) ?_
        refine f_il 0 rfl hL rfl ?_
        refine f_s [fi (5), fi (14), fi (10)] rfl rfl ?_
        refine f_idiv rfl (by decide) (by decide) (by decide) (by decide) ?_
        refine b_eq (x := 2) (by decide) ?_
        refine f_imul rfl ?_
        refine b_eq (x := 20) (by decide) ?_
        refine f_il 0 rfl hL rfl ?_
        refine f_s [fi (5), fi (14), fi (20)] rfl rfl ?_
        refine f_irem rfl (by decide) (by decide) (by decide) (by decide) ?_
        refine b_eq (x := 4) (by decide) ?_
        refine f_iadd rfl ?_
        refine b_eq (x := 24) (by decide) ?_
        refine f_goto rfl ?_
        refine f_ist [(6, fi (24)), (7, fi (14)), (5, fi (n)), (0, .ref 55), (1, fi (x)), (2, fi (y)), (3, fi (k)), (4, fi (t))] rfl (by decide) hL rfl (fun L75 hL75 => ?_)
        refine f_inc 2 [(5, fi (n + 1)), (6, fi (24)), (7, fi (14)), (0, .ref 55), (1, fi (x)), (2, fi (y)), (3, fi (k)), (4, fi (t))] rfl (by decide) hL75 rfl rfl (fun L76 hL76 => ?_)
        refine f_inc 2 [(7, fi (15)), (5, fi (n + 1)), (6, fi (24)), (0, .ref 55), (1, fi (x)), (2, fi (y)), (3, fi (k)), (4, fi (t))] rfl (by decide) hL76 rfl rfl (fun L77 hL77 => ?_)
        refine f_goto rfl ?_
        have eC : lC (rl14 w f1 f2) n = lC (rl15 w f1 f2) (n + 1) := by
          show lC (rl15 w f1 f2) (n + bI (rR0 w f1 f2 2 4)) = _
          rw [bI1 c1]
          rfl
        have eM : lM (rl14 w f1 f2) n f = lM (rl15 w f1 f2) (n + 1) (24) := (if_pos (bI1 c1)).trans (by rw [if_pos (show n = 0 by omega)])
        rw [eC, eM]
        exact hK15 hc11 _ _ _ hw11 hm11 (by omega) (hL77.sel [0, 1, 2, 3, 4, 5, 6, 7] rfl)
  have hK13 : ∀ (hc : ev_H) (n f : Int) (L : ev_L), y_in yGw hc → gi hc = m → (0 ≤ n ∧ n ≤ 13) → f_L L [(7, fi (13)), (5, fi (n)), (6, fi (f)), (0, .ref 55), (1, fi (x)), (2, fi (y)), (3, fi (k)), (4, fi (t))] → x_W none (1, 0, 8, 4, 11, 5, 122, 0, 0, ev_t181) 55 L [] hc 0 0 (fun r' h' => r' = some (fi (if t = 0 then lC (rl13 w f1 f2) n else lM (rl13 w f1 f2) n f)) ∧ y_in yGw h' ∧ gi h' = m) := fun hc n f L hw hm rn hL => by
    refine f_il 0 rfl hL rfl ?_
    refine f_bipush (n := 25) rfl (by decide) ?_
    refine f_ic rfl (by decide) (by decide) (fun c_9 => absurd (show (25 : Int) ≤ (13 : Int) from c_9) (by decide)) (fun _ => ?_)
    refine f_aln 3 rfl hL rfl ?_
    refine f_iln 4 rfl hL rfl ?_
    refine f_iln 5 rfl hL rfl ?_
    refine f_iln 6 rfl hL rfl ?_
    refine f_il 0 rfl hL rfl ?_
    refine f_s [fi (5), fi (13), fi (k), fi (y), fi (x), .ref 55] rfl rfl ?_
    refine f_idiv rfl (by decide) (by decide) (by decide) (by decide) ?_
    refine b_eq (x := 2) (by decide) ?_
    refine f_il 0 rfl hL rfl ?_
    refine f_s [fi (5), fi (13), fi (2), fi (k), fi (y), fi (x), .ref 55] rfl rfl ?_
    refine f_irem rfl (by decide) (by decide) (by decide) (by decide) ?_
    refine b_eq (x := 3) (by decide) ?_
    refine m_k1 (t180 (a := 2) (b := 3) (by decide) (by decide) x1 y1 k1 hwv h0 h1 h2) hw hm rfl rfl rfl (m_ar so55 hw rfl) rfl (fun hc12 hw12 hm12 => ?_)
    refine f_if rfl (bI_r _) (fun c1 => ?_) (fun c1 => ?_)
    · have c1 : (bI (rR0 w f1 f2 2 3) : Int) = (0 : Int) := c1
      refine f_inc 0 [(7, fi (14)), (5, fi (n)), (6, fi (f)), (0, .ref 55), (1, fi (x)), (2, fi (y)), (3, fi (k)), (4, fi (t))] rfl (by decide) hL rfl rfl (fun L78 hL78 => ?_)
      refine f_goto rfl ?_
      have eC : lC (rl13 w f1 f2) n = lC (rl14 w f1 f2) n := by
        show lC (rl14 w f1 f2) (n + bI (rR0 w f1 f2 2 3)) = _
        rw [bI0 c1]
        show lC (rl14 w f1 f2) (n + 0) = _
        rw [Int.add_zero]
      have eM : lM (rl13 w f1 f2) n f = lM (rl14 w f1 f2) n f := if_neg (by rw [bI0 c1]; decide)
      rw [eC, eM]
      exact hK14 hc12 _ _ _ hw12 hm12 (by omega) (hL78.sel [0, 1, 2, 3, 4, 5, 6, 7] rfl)
    · have c1 : ¬ ((bI (rR0 w f1 f2 2 3) : Int) = (0 : Int)) := c1
      refine f_il 1 rfl hL rfl ?_
      refine f_if rfl (by omega) (fun c2 => ?_) (fun c2 => ?_)
      · have c2 : ¬ (n : Int) = (0 : Int) := c2
        refine f_il 2 rfl hL rfl ?_
        refine f_ist [(6, fi (f)), (7, fi (13)), (5, fi (n)), (0, .ref 55), (1, fi (x)), (2, fi (y)), (3, fi (k)), (4, fi (t))] rfl (by decide) hL rfl (fun L79 hL79 => ?_)
        refine f_inc 2 [(5, fi (n + 1)), (6, fi (f)), (7, fi (13)), (0, .ref 55), (1, fi (x)), (2, fi (y)), (3, fi (k)), (4, fi (t))] rfl (by decide) hL79 rfl rfl (fun L80 hL80 => ?_)
        refine f_inc 2 [(7, fi (14)), (5, fi (n + 1)), (6, fi (f)), (0, .ref 55), (1, fi (x)), (2, fi (y)), (3, fi (k)), (4, fi (t))] rfl (by decide) hL80 rfl rfl (fun L81 hL81 => ?_)
        refine f_goto rfl ?_
        have eC : lC (rl13 w f1 f2) n = lC (rl14 w f1 f2) (n + 1) := by
          show lC (rl14 w f1 f2) (n + bI (rR0 w f1 f2 2 3)) = _
          rw [bI1 c1]
          rfl
        have eM : lM (rl13 w f1 f2) n f = lM (rl14 w f1 f2) (n + 1) (f) := (if_pos (bI1 c1)).trans (by rw [if_neg (show ¬ n = 0 by omega)])
        rw [eC, eM]
        exact hK14 hc12 _ _ _ hw12 hm12 (by omega) (hL81.sel [0, 1, 2, 3, 4, 5, 6, 7] rfl)
      · have c2 : ¬ (¬ (n : Int) = (0 : Int)) := c2
        refine f_bipush (n := 10) rfl (by decide) ?_
        refine f_il 0 rfl hL rfl ?_
        refine f_s [fi (5), fi (13), fi (10)] rfl rfl ?_
        refine f_idiv rfl (by decide) (by decide) (by decide) (by decide) ?_
        refine b_eq (x := 2) (by decide) ?_
        refine f_imul rfl ?_
        refine b_eq (x := 20) (by decide) ?_
        refine f_il 0 rfl hL rfl ?_
        refine f_s [fi (5), fi (13), fi (20)] rfl rfl ?_
        refine f_irem rfl (by decide) (by decide) (by decide) (by decide) ?_
        refine b_eq (x := 3) (by decide) ?_
        refine f_iadd rfl ?_
        refine b_eq (x := 23) (by decide) ?_
        refine f_goto rfl ?_
        refine f_ist [(6, fi (23)), (7, fi (13)), (5, fi (n)), (0, .ref 55), (1, fi (x)), (2, fi (y)), (3, fi (k)), (4, fi (t))] rfl (by decide) hL rfl (fun L82 hL82 => ?_)
        refine f_inc 2 [(5, fi (n + 1)), (6, fi (23)), (7, fi (13)), (0, .ref 55), (1, fi (x)), (2, fi (y)), (3, fi (k)), (4, fi (t))] rfl (by decide) hL82 rfl rfl (fun L83 hL83 => ?_)
        refine f_inc 2 [(7, fi (14)), (5, fi (n + 1)), (6, fi (23)), (0, .ref 55), (1, fi (x)), (2, fi (y)), (3, fi (k)), (4, fi (t))] rfl (by decide) hL83 rfl rfl (fun L84 hL84 => ?_)
        refine f_goto rfl ?_
        have eC : lC (rl13 w f1 f2) n = lC (rl14 w f1 f2) (n + 1) := by
          show lC (rl14 w f1 f2) (n + bI (rR0 w f1 f2 2 3)) = _
          rw [bI1 c1]
          rfl
        have eM : lM (rl13 w f1 f2) n f = lM (rl14 w f1 f2) (n + 1) (23) := (if_pos (bI1 c1)).trans (by rw [if_pos (show n = 0 by omega)])
        rw [eC, eM]
        exact hK14 hc12 _ _ _ hw12 hm12 (by omega) (hL84.sel [0, 1, 2, 3, 4, 5, 6, 7] rfl)
  have hK12 : ∀ (hc : ev_H) (n f : Int) (L : ev_L), y_in yGw hc → gi hc = m → (0 ≤ n ∧ n ≤ 12) → f_L L [(7, fi (12)), (5, fi (n)), (6, fi (f)), (0, .ref 55), (1, fi (x)), (2, fi (y)), (3, fi (k)), (4, fi (t))] → x_W none (1, 0, 8, 4, 11, 5, 122, 0, 0, ev_t181) 55 L [] hc 0 0 (fun r' h' => r' = some (fi (if t = 0 then lC (rl12 w f1 f2) n else lM (rl12 w f1 f2) n f)) ∧ y_in yGw h' ∧ gi h' = m) := fun hc n f L hw hm rn hL => by
    refine f_il 0 rfl hL rfl ?_
    refine f_bipush (n := 25) rfl (by decide) ?_
    refine f_ic rfl (by decide) (by decide) (fun c_9 => absurd (show (25 : Int) ≤ (12 : Int) from c_9) (by decide)) (fun _ => ?_)
    refine f_aln 3 rfl hL rfl ?_
    refine f_iln 4 rfl hL rfl ?_
    refine f_iln 5 rfl hL rfl ?_
    refine f_iln 6 rfl hL rfl ?_
    refine f_il 0 rfl hL rfl ?_
    refine f_s [fi (5), fi (12), fi (k), fi (y), fi (x), .ref 55] rfl rfl ?_
    refine f_idiv rfl (by decide) (by decide) (by decide) (by decide) ?_
    refine b_eq (x := 2) (by decide) ?_
    refine f_il 0 rfl hL rfl ?_
    refine f_s [fi (5), fi (12), fi (2), fi (k), fi (y), fi (x), .ref 55] rfl rfl ?_
    refine f_irem rfl (by decide) (by decide) (by decide) (by decide) ?_
    refine b_eq (x := 2) (by decide) ?_
    refine m_k1 (t180 (a := 2) (b := 2) (by decide) (by decide) x1 y1 k1 hwv h0 h1 h2) hw hm rfl rfl rfl (m_ar so55 hw rfl) rfl (fun hc13 hw13 hm13 => ?_)
    refine f_if rfl (bI_r _) (fun c1 => ?_) (fun c1 => ?_)
    · have c1 : (bI (rR0 w f1 f2 2 2) : Int) = (0 : Int) := c1
      refine f_inc 0 [(7, fi (13)), (5, fi (n)), (6, fi (f)), (0, .ref 55), (1, fi (x)), (2, fi (y)), (3, fi (k)), (4, fi (t))] rfl (by decide) hL rfl rfl (fun L85 hL85 => ?_)
      refine f_goto rfl ?_
      have eC : lC (rl12 w f1 f2) n = lC (rl13 w f1 f2) n := by
        show lC (rl13 w f1 f2) (n + bI (rR0 w f1 f2 2 2)) = _
        rw [bI0 c1]
        show lC (rl13 w f1 f2) (n + 0) = _
        rw [Int.add_zero]
      have eM : lM (rl12 w f1 f2) n f = lM (rl13 w f1 f2) n f := if_neg (by rw [bI0 c1]; decide)
      rw [eC, eM]
      exact hK13 hc13 _ _ _ hw13 hm13 (by omega) (hL85.sel [0, 1, 2, 3, 4, 5, 6, 7] rfl)
    · have c1 : ¬ ((bI (rR0 w f1 f2 2 2) : Int) = (0 : Int)) := c1
      refine f_il 1 rfl hL rfl ?_
      refine f_if rfl (by omega) (fun c2 => ?_) (fun c2 => ?_)
      · have c2 : ¬ (n : Int) = (0 : Int) := c2
        refine f_il 2 rfl hL rfl ?_
        refine f_ist [(6, fi (f)), (7, fi (12)), (5, fi (n)), (0, .ref 55), (1, fi (x)), (2, fi (y)), (3, fi (k)), (4, fi (t))] rfl (by decide) hL rfl (fun L86 hL86 => ?_)
        refine f_inc 2 [(5, fi (n + 1)), (6, fi (f)), (7, fi (12)), (0, .ref 55), (1, fi (x)), (2, fi (y)), (3, fi (k)), (4, fi (t))] rfl (by decide) hL86 rfl rfl (fun L87 hL87 => ?_)
        refine f_inc 2 [(7, fi (13)), (5, fi (n + 1)), (6, fi (f)), (0, .ref 55), (1, fi (x)), (2, fi (y)), (3, fi (k)), (4, fi (t))] rfl (by decide) hL87 rfl rfl (fun L88 hL88 => ?_)
        refine f_goto rfl ?_
        have eC : lC (rl12 w f1 f2) n = lC (rl13 w f1 f2) (n + 1) := by
          show lC (rl13 w f1 f2) (n + bI (rR0 w f1 f2 2 2)) = _
          rw [bI1 c1]
          rfl
        have eM : lM (rl12 w f1 f2) n f = lM (rl13 w f1 f2) (n + 1) (f) := (if_pos (bI1 c1)).trans (by rw [if_neg (show ¬ n = 0 by omega)])
        rw [eC, eM]
        exact hK13 hc13 _ _ _ hw13 hm13 (by omega) (hL88.sel [0, 1, 2, 3, 4, 5, 6, 7] rfl)
      · have c2 : ¬ (¬ (n : Int) = (0 : Int)) := c2
        refine f_bipush (n := 10) rfl (by decide) ?_
        refine f_il 0 rfl hL rfl ?_
        refine f_s [fi (5), fi (12), fi (10)] rfl rfl ?_
        refine f_idiv rfl (by decide) (by decide) (by decide) (by decide) ?_
        refine b_eq (x := 2) (by decide) ?_
        refine f_imul rfl ?_
        refine b_eq (x := 20) (by decide) ?_
        refine f_il 0 rfl hL rfl ?_
        refine f_s [fi (5), fi (12), fi (20)] rfl rfl ?_
        refine f_irem rfl (by decide) (by decide) (by decide) (by decide) ?_
        refine b_eq (x := 2) (by decide) ?_
        refine f_iadd rfl ?_
        refine b_eq (x := 22) (by decide) ?_
        refine f_goto rfl ?_
        refine f_ist [(6, fi (22)), (7, fi (12)), (5, fi (n)), (0, .ref 55), (1, fi (x)), (2, fi (y)), (3, fi (k)), (4, fi (t))] rfl (by decide) hL rfl (fun L89 hL89 => ?_)
        refine f_inc 2 [(5, fi (n + 1)), (6, fi (22)), (7, fi (12)), (0, .ref 55), (1, fi (x)), (2, fi (y)), (3, fi (k)), (4, fi (t))] rfl (by decide) hL89 rfl rfl (fun L90 hL90 => ?_)
        refine f_inc 2 [(7, fi (13)), (5, fi (n + 1)), (6, fi (22)), (0, .ref 55), (1, fi (x)), (2, fi (y)), (3, fi (k)), (4, fi (t))] rfl (by decide) hL90 rfl rfl (fun L91 hL91 => ?_)
        refine f_goto rfl ?_
        have eC : lC (rl12 w f1 f2) n = lC (rl13 w f1 f2) (n + 1) := by
          show lC (rl13 w f1 f2) (n + bI (rR0 w f1 f2 2 2)) = _
          rw [bI1 c1]
          rfl
        have eM : lM (rl12 w f1 f2) n f = lM (rl13 w f1 f2) (n + 1) (22) := (if_pos (bI1 c1)).trans (by rw [if_pos (show n = 0 by omega)])
        rw [eC, eM]
        exact hK13 hc13 _ _ _ hw13 hm13 (by omega) (hL91.sel [0, 1, 2, 3, 4, 5, 6, 7] rfl)
  have hK11 : ∀ (hc : ev_H) (n f : Int) (L : ev_L), y_in yGw hc → gi hc = m → (0 ≤ n ∧ n ≤ 11) → f_L L [(7, fi (11)), (5, fi (n)), (6, fi (f)), (0, .ref 55), (1, fi (x)), (2, fi (y)), (3, fi (k)), (4, fi (t))] → x_W none (1, 0, 8, 4, 11, 5, 122, 0, 0, ev_t181) 55 L [] hc 0 0 (fun r' h' => r' = some (fi (if t = 0 then lC (rl11 w f1 f2) n else lM (rl11 w f1 f2) n f)) ∧ y_in yGw h' ∧ gi h' = m) := fun hc n f L hw hm rn hL => by
    refine f_il 0 rfl hL rfl ?_
    refine f_bipush (n := 25) rfl (by decide) ?_
    refine f_ic rfl (by decide) (by decide) (fun c_9 => absurd (show (25 : Int) ≤ (11 : Int) from c_9) (by decide)) (fun _ => ?_)
    refine f_aln 3 rfl hL rfl ?_
    refine f_iln 4 rfl hL rfl ?_
    refine f_iln 5 rfl hL rfl ?_
    refine f_iln 6 rfl hL rfl ?_
    refine f_il 0 rfl hL rfl ?_
    refine f_s [fi (5), fi (11), fi (k), fi (y), fi (x), .ref 55] rfl rfl ?_
    refine f_idiv rfl (by decide) (by decide) (by decide) (by decide) ?_
    refine b_eq (x := 2) (by decide) ?_
    refine f_il 0 rfl hL rfl ?_
    refine f_s [fi (5), fi (11), fi (2), fi (k), fi (y), fi (x), .ref 55] rfl rfl ?_
    refine f_irem rfl (by decide) (by decide) (by decide) (by decide) ?_
    refine b_eq (x := 1) (by decide) ?_
    refine m_k1 (t180 (a := 2) (b := 1) (by decide) (by decide) x1 y1 k1 hwv h0 h1 h2) hw hm rfl rfl rfl (m_ar so55 hw rfl) rfl (fun hc14 hw14 hm14 => ?_)
    refine f_if rfl (bI_r _) (fun c1 => ?_) (fun c1 => ?_)
    · have c1 : (bI (rR0 w f1 f2 2 1) : Int) = (0 : Int) := c1
      refine f_inc 0 [(7, fi (12)), (5, fi (n)), (6, fi (f)), (0, .ref 55), (1, fi (x)), (2, fi (y)), (3, fi (k)), (4, fi (t))] rfl (by decide) hL rfl rfl (fun L92 hL92 => ?_)
      refine f_goto rfl ?_
      have eC : lC (rl11 w f1 f2) n = lC (rl12 w f1 f2) n := by
        show lC (rl12 w f1 f2) (n + bI (rR0 w f1 f2 2 1)) = _
        rw [bI0 c1]
        show lC (rl12 w f1 f2) (n + 0) = _
        rw [Int.add_zero]
      have eM : lM (rl11 w f1 f2) n f = lM (rl12 w f1 f2) n f := if_neg (by rw [bI0 c1]; decide)
      rw [eC, eM]
      exact hK12 hc14 _ _ _ hw14 hm14 (by omega) (hL92.sel [0, 1, 2, 3, 4, 5, 6, 7] rfl)
    · have c1 : ¬ ((bI (rR0 w f1 f2 2 1) : Int) = (0 : Int)) := c1
      refine f_il 1 rfl hL rfl ?_
      refine f_if rfl (by omega) (fun c2 => ?_) (fun c2 => ?_)
      · have c2 : ¬ (n : Int) = (0 : Int) := c2
        refine f_il 2 rfl hL rfl ?_
        refine f_ist [(6, fi (f)), (7, fi (11)), (5, fi (n)), (0, .ref 55), (1, fi (x)), (2, fi (y)), (3, fi (k)), (4, fi (t))] rfl (by decide) hL rfl (fun L93 hL93 => ?_)
        refine f_inc 2 [(5, fi (n + 1)), (6, fi (f)), (7, fi (11)), (0, .ref 55), (1, fi (x)), (2, fi (y)), (3, fi (k)), (4, fi (t))] rfl (by decide) hL93 rfl rfl (fun L94 hL94 => ?_)
        refine f_inc 2 [(7, fi (12)), (5, fi (n + 1)), (6, fi (f)), (0, .ref 55), (1, fi (x)), (2, fi (y)), (3, fi (k)), (4, fi (t))] rfl (by decide) hL94 rfl rfl (fun L95 hL95 => ?_)
        refine f_goto rfl ?_
        have eC : lC (rl11 w f1 f2) n = lC (rl12 w f1 f2) (n + 1) := by
          show lC (rl12 w f1 f2) (n + bI (rR0 w f1 f2 2 1)) = _
          rw [bI1 c1]
          rfl
        have eM : lM (rl11 w f1 f2) n f = lM (rl12 w f1 f2) (n + 1) (f) := (if_pos (bI1 c1)).trans (by rw [if_neg (show ¬ n = 0 by omega)])
        rw [eC, eM]
        exact hK12 hc14 _ _ _ hw14 hm14 (by omega) (hL95.sel [0, 1, 2, 3, 4, 5, 6, 7] rfl)
      · have c2 : ¬ (¬ (n : Int) = (0 : Int)) := c2
        refine f_bipush (n := 10) rfl (by decide) ?_
        refine f_il 0 rfl hL rfl ?_
        refine f_s [fi (5), fi (11), fi (10)] rfl rfl ?_
        refine f_idiv rfl (by decide) (by decide) (by decide) (by decide) ?_
        refine b_eq (x := 2) (by decide) ?_
        refine f_imul rfl ?_
        refine b_eq (x := 20) (by decide) ?_
        refine f_il 0 rfl hL rfl ?_
        refine f_s [fi (5), fi (11), fi (20)] rfl rfl ?_
        refine f_irem rfl (by decide) (by decide) (by decide) (by decide) ?_
        refine b_eq (x := 1) (by decide) ?_
        refine f_iadd rfl ?_
        refine b_eq (x := 21) (by decide) ?_
        refine f_goto rfl ?_
        refine f_ist [(6, fi (21)), (7, fi (11)), (5, fi (n)), (0, .ref 55), (1, fi (x)), (2, fi (y)), (3, fi (k)), (4, fi (t))] rfl (by decide) hL rfl (fun L96 hL96 => ?_)
        refine f_inc 2 [(5, fi (n + 1)), (6, fi (21)), (7, fi (11)), (0, .ref 55), (1, fi (x)), (2, fi (y)), (3, fi (k)), (4, fi (t))] rfl (by decide) hL96 rfl rfl (fun L97 hL97 => ?_)
        refine f_inc 2 [(7, fi (12)), (5, fi (n + 1)), (6, fi (21)), (0, .ref 55), (1, fi (x)), (2, fi (y)), (3, fi (k)), (4, fi (t))] rfl (by decide) hL97 rfl rfl (fun L98 hL98 => ?_)
        refine f_goto rfl ?_
        have eC : lC (rl11 w f1 f2) n = lC (rl12 w f1 f2) (n + 1) := by
          show lC (rl12 w f1 f2) (n + bI (rR0 w f1 f2 2 1)) = _
          rw [bI1 c1]
          rfl
        have eM : lM (rl11 w f1 f2) n f = lM (rl12 w f1 f2) (n + 1) (21) := (if_pos (bI1 c1)).trans (by rw [if_pos (show n = 0 by omega)])
        rw [eC, eM]
        exact hK12 hc14 _ _ _ hw14 hm14 (by omega) (hL98.sel [0, 1, 2, 3, 4, 5, 6, 7] rfl)
  have hK10 : ∀ (hc : ev_H) (n f : Int) (L : ev_L), y_in yGw hc → gi hc = m → (0 ≤ n ∧ n ≤ 10) → f_L L [(7, fi (10)), (5, fi (n)), (6, fi (f)), (0, .ref 55), (1, fi (x)), (2, fi (y)), (3, fi (k)), (4, fi (t))] → x_W none (1, 0, 8, 4, 11, 5, 122, 0, 0, ev_t181) 55 L [] hc 0 0 (fun r' h' => r' = some (fi (if t = 0 then lC (rl10 w f1 f2) n else lM (rl10 w f1 f2) n f)) ∧ y_in yGw h' ∧ gi h' = m) := fun hc n f L hw hm rn hL => by
    refine f_il 0 rfl hL rfl ?_
    refine f_bipush (n := 25) rfl (by decide) ?_
    refine f_ic rfl (by decide) (by decide) (fun c_9 => absurd (show (25 : Int) ≤ (10 : Int) from c_9) (by decide)) (fun _ => ?_)
    refine f_aln 3 rfl hL rfl ?_
    refine f_iln 4 rfl hL rfl ?_
    refine f_iln 5 rfl hL rfl ?_
    refine f_iln 6 rfl hL rfl ?_
    refine f_il 0 rfl hL rfl ?_
    refine f_s [fi (5), fi (10), fi (k), fi (y), fi (x), .ref 55] rfl rfl ?_
    refine f_idiv rfl (by decide) (by decide) (by decide) (by decide) ?_
    refine b_eq (x := 2) (by decide) ?_
    refine f_il 0 rfl hL rfl ?_
    refine f_s [fi (5), fi (10), fi (2), fi (k), fi (y), fi (x), .ref 55] rfl rfl ?_
    refine f_irem rfl (by decide) (by decide) (by decide) (by decide) ?_
    refine b_eq (x := 0) (by decide) ?_
    refine m_k1 (t180 (a := 2) (b := 0) (by decide) (by decide) x1 y1 k1 hwv h0 h1 h2) hw hm rfl rfl rfl (m_ar so55 hw rfl) rfl (fun hc15 hw15 hm15 => ?_)
    refine f_if rfl (bI_r _) (fun c1 => ?_) (fun c1 => ?_)
    · have c1 : (bI (rR0 w f1 f2 2 0) : Int) = (0 : Int) := c1
      refine f_inc 0 [(7, fi (11)), (5, fi (n)), (6, fi (f)), (0, .ref 55), (1, fi (x)), (2, fi (y)), (3, fi (k)), (4, fi (t))] rfl (by decide) hL rfl rfl (fun L99 hL99 => ?_)
      refine f_goto rfl ?_
      have eC : lC (rl10 w f1 f2) n = lC (rl11 w f1 f2) n := by
        show lC (rl11 w f1 f2) (n + bI (rR0 w f1 f2 2 0)) = _
        rw [bI0 c1]
        show lC (rl11 w f1 f2) (n + 0) = _
        rw [Int.add_zero]
      have eM : lM (rl10 w f1 f2) n f = lM (rl11 w f1 f2) n f := if_neg (by rw [bI0 c1]; decide)
      rw [eC, eM]
      exact hK11 hc15 _ _ _ hw15 hm15 (by omega) (hL99.sel [0, 1, 2, 3, 4, 5, 6, 7] rfl)
    · have c1 : ¬ ((bI (rR0 w f1 f2 2 0) : Int) = (0 : Int)) := c1
      refine f_il 1 rfl hL rfl ?_
      refine f_if rfl (by omega) (fun c2 => ?_) (fun c2 => ?_)
      · have c2 : ¬ (n : Int) = (0 : Int) := c2
        refine f_il 2 rfl hL rfl ?_
        refine f_ist [(6, fi (f)), (7, fi (10)), (5, fi (n)), (0, .ref 55), (1, fi (x)), (2, fi (y)), (3, fi (k)), (4, fi (t))] rfl (by decide) hL rfl (fun L100 hL100 => ?_)
        refine f_inc 2 [(5, fi (n + 1)), (6, fi (f)), (7, fi (10)), (0, .ref 55), (1, fi (x)), (2, fi (y)), (3, fi (k)), (4, fi (t))] rfl (by decide) hL100 rfl rfl (fun L101 hL101 => ?_)
        refine f_inc 2 [(7, fi (11)), (5, fi (n + 1)), (6, fi (f)), (0, .ref 55), (1, fi (x)), (2, fi (y)), (3, fi (k)), (4, fi (t))] rfl (by decide) hL101 rfl rfl (fun L102 hL102 => ?_)
        refine f_goto rfl ?_
        have eC : lC (rl10 w f1 f2) n = lC (rl11 w f1 f2) (n + 1) := by
          show lC (rl11 w f1 f2) (n + bI (rR0 w f1 f2 2 0)) = _
          rw [bI1 c1]
          rfl
        have eM : lM (rl10 w f1 f2) n f = lM (rl11 w f1 f2) (n + 1) (f) := (if_pos (bI1 c1)).trans (by rw [if_neg (show ¬ n = 0 by omega)])
        rw [eC, eM]
        exact hK11 hc15 _ _ _ hw15 hm15 (by omega) (hL102.sel [0, 1, 2, 3, 4, 5, 6, 7] rfl)
      · have c2 : ¬ (¬ (n : Int) = (0 : Int)) := c2
        refine f_bipush (n := 10) rfl (by decide) ?_
        refine f_il 0 rfl hL rfl ?_
        refine f_s [fi (5), fi (10), fi (10)] rfl rfl ?_
        refine f_idiv rfl (by decide) (by decide) (by decide) (by decide) ?_
        refine b_eq (x := 2) (by decide) ?_
        refine f_imul rfl ?_
        refine b_eq (x := 20) (by decide) ?_
        refine f_il 0 rfl hL rfl ?_
        refine f_s [fi (5), fi (10), fi (20)] rfl rfl ?_
        refine f_irem rfl (by decide) (by decide) (by decide) (by decide) ?_
        refine b_eq (x := 0) (by decide) ?_
        refine f_iadd rfl ?_
        refine b_eq (x := 20) (by decide) ?_
        refine f_goto rfl ?_
        refine f_ist [(6, fi (20)), (7, fi (10)), (5, fi (n)), (0, .ref 55), (1, fi (x)), (2, fi (y)), (3, fi (k)), (4, fi (t))] rfl (by decide) hL rfl (fun L103 hL103 => ?_)
        refine f_inc 2 [(5, fi (n + 1)), (6, fi (20)), (7, fi (10)), (0, .ref 55), (1, fi (x)), (2, fi (y)), (3, fi (k)), (4, fi (t))] rfl (by decide) hL103 rfl rfl (fun L104 hL104 => ?_)
        refine f_inc 2 [(7, fi (11)), (5, fi (n + 1)), (6, fi (20)), (0, .ref 55), (1, fi (x)), (2, fi (y)), (3, fi (k)), (4, fi (t))] rfl (by decide) hL104 rfl rfl (fun L105 hL105 => ?_)
        refine f_goto rfl ?_
        have eC : lC (rl10 w f1 f2) n = lC (rl11 w f1 f2) (n + 1) := by
          show lC (rl11 w f1 f2) (n + bI (rR0 w f1 f2 2 0)) = _
          rw [bI1 c1]
          rfl
        have eM : lM (rl10 w f1 f2) n f = lM (rl11 w f1 f2) (n + 1) (20) := (if_pos (bI1 c1)).trans (by rw [if_pos (show n = 0 by omega)])
        rw [eC, eM]
        exact hK11 hc15 _ _ _ hw15 hm15 (by omega) (hL105.sel [0, 1, 2, 3, 4, 5, 6, 7] rfl)
  have hK9 : ∀ (hc : ev_H) (n f : Int) (L : ev_L), y_in yGw hc → gi hc = m → (0 ≤ n ∧ n ≤ 9) → f_L L [(7, fi (9)), (5, fi (n)), (6, fi (f)), (0, .ref 55), (1, fi (x)), (2, fi (y)), (3, fi (k)), (4, fi (t))] → x_W none (1, 0, 8, 4, 11, 5, 122, 0, 0, ev_t181) 55 L [] hc 0 0 (fun r' h' => r' = some (fi (if t = 0 then lC (rl9 w f1 f2) n else lM (rl9 w f1 f2) n f)) ∧ y_in yGw h' ∧ gi h' = m) := fun hc n f L hw hm rn hL => by
    refine f_il 0 rfl hL rfl ?_
    refine f_bipush (n := 25) rfl (by decide) ?_
    refine f_ic rfl (by decide) (by decide) (fun c_9 => absurd (show (25 : Int) ≤ (9 : Int) from c_9) (by decide)) (fun _ => ?_)
    refine f_aln 3 rfl hL rfl ?_
    refine f_iln 4 rfl hL rfl ?_
    refine f_iln 5 rfl hL rfl ?_
    refine f_iln 6 rfl hL rfl ?_
    refine f_il 0 rfl hL rfl ?_
    refine f_s [fi (5), fi (9), fi (k), fi (y), fi (x), .ref 55] rfl rfl ?_
    refine f_idiv rfl (by decide) (by decide) (by decide) (by decide) ?_
    refine b_eq (x := 1) (by decide) ?_
    refine f_il 0 rfl hL rfl ?_
    refine f_s [fi (5), fi (9), fi (1), fi (k), fi (y), fi (x), .ref 55] rfl rfl ?_
    refine f_irem rfl (by decide) (by decide) (by decide) (by decide) ?_
    refine b_eq (x := 4) (by decide) ?_
    refine m_k1 (t180 (a := 1) (b := 4) (by decide) (by decide) x1 y1 k1 hwv h0 h1 h2) hw hm rfl rfl rfl (m_ar so55 hw rfl) rfl (fun hc16 hw16 hm16 => ?_)
    refine f_if rfl (bI_r _) (fun c1 => ?_) (fun c1 => ?_)
    · have c1 : (bI (rR0 w f1 f2 1 4) : Int) = (0 : Int) := c1
      refine f_inc 0 [(7, fi (10)), (5, fi (n)), (6, fi (f)), (0, .ref 55), (1, fi (x)), (2, fi (y)), (3, fi (k)), (4, fi (t))] rfl (by decide) hL rfl rfl (fun L106 hL106 => ?_)
      refine f_goto rfl ?_
      have eC : lC (rl9 w f1 f2) n = lC (rl10 w f1 f2) n := by
        show lC (rl10 w f1 f2) (n + bI (rR0 w f1 f2 1 4)) = _
        rw [bI0 c1]
        show lC (rl10 w f1 f2) (n + 0) = _
        rw [Int.add_zero]
      have eM : lM (rl9 w f1 f2) n f = lM (rl10 w f1 f2) n f := if_neg (by rw [bI0 c1]; decide)
      rw [eC, eM]
      exact hK10 hc16 _ _ _ hw16 hm16 (by omega) (hL106.sel [0, 1, 2, 3, 4, 5, 6, 7] rfl)
    · have c1 : ¬ ((bI (rR0 w f1 f2 1 4) : Int) = (0 : Int)) := c1
      refine f_il 1 rfl hL rfl ?_
      refine f_if rfl (by omega) (fun c2 => ?_) (fun c2 => ?_)
      · have c2 : ¬ (n : Int) = (0 : Int) := c2
        refine f_il 2 rfl hL rfl ?_
        refine f_ist [(6, fi (f)), (7, fi (9)), (5, fi (n)), (0, .ref 55), (1, fi (x)), (2, fi (y)), (3, fi (k)), (4, fi (t))] rfl (by decide) hL rfl (fun L107 hL107 => ?_)
        refine f_inc 2 [(5, fi (n + 1)), (6, fi (f)), (7, fi (9)), (0, .ref 55), (1, fi (x)), (2, fi (y)), (3, fi (k)), (4, fi (t))] rfl (by decide) hL107 rfl rfl (fun L108 hL108 => ?_)
        refine f_inc 2 [(7, fi (10)), (5, fi (n + 1)), (6, fi (f)), (0, .ref 55), (1, fi (x)), (2, fi (y)), (3, fi (k)), (4, fi (t))] rfl (by decide) hL108 rfl rfl (fun L109 hL109 => ?_)
        refine f_goto rfl ?_
        have eC : lC (rl9 w f1 f2) n = lC (rl10 w f1 f2) (n + 1) := by
          show lC (rl10 w f1 f2) (n + bI (rR0 w f1 f2 1 4)) = _
          rw [bI1 c1]
          rfl
        have eM : lM (rl9 w f1 f2) n f = lM (rl10 w f1 f2) (n + 1) (f) := (if_pos (bI1 c1)).trans (by rw [if_neg (show ¬ n = 0 by omega)])
        rw [eC, eM]
        exact hK10 hc16 _ _ _ hw16 hm16 (by omega) (hL109.sel [0, 1, 2, 3, 4, 5, 6, 7] rfl)
      · have c2 : ¬ (¬ (n : Int) = (0 : Int)) := c2
        refine f_bipush (n := 10) rfl (by decide) ?_
        refine f_il 0 rfl hL rfl ?_
        refine f_s [fi (5), fi (9), fi (10)] rfl rfl ?_
        refine f_idiv rfl (by decide) (by decide) (by decide) (by decide) ?_
        refine b_eq (x := 1) (by decide) ?_
        refine f_imul rfl ?_
        refine b_eq (x := 10) (by decide) ?_
        refine f_il 0 rfl hL rfl ?_
        refine f_s [fi (5), fi (9), fi (10)] rfl rfl ?_
        refine f_irem rfl (by decide) (by decide) (by decide) (by decide) ?_
        refine b_eq (x := 4) (by decide) ?_
        refine f_iadd rfl ?_
        refine b_eq (x := 14) (by decide) ?_
        refine f_goto rfl ?_
        refine f_ist [(6, fi (14)), (7, fi (9)), (5, fi (n)), (0, .ref 55), (1, fi (x)), (2, fi (y)), (3, fi (k)), (4, fi (t))] rfl (by decide) hL rfl (fun L110 hL110 => ?_)
        refine f_inc 2 [(5, fi (n + 1)), (6, fi (14)), (7, fi (9)), (0, .ref 55), (1, fi (x)), (2, fi (y)), (3, fi (k)), (4, fi (t))] rfl (by decide) hL110 rfl rfl (fun L111 hL111 => ?_)
        refine f_inc 2 [(7, fi (10)), (5, fi (n + 1)), (6, fi (14)), (0, .ref 55), (1, fi (x)), (2, fi (y)), (3, fi (k)), (4, fi (t))] rfl (by decide) hL111 rfl rfl (fun L112 hL112 => ?_)
        refine f_goto rfl ?_
        have eC : lC (rl9 w f1 f2) n = lC (rl10 w f1 f2) (n + 1) := by
          show lC (rl10 w f1 f2) (n + bI (rR0 w f1 f2 1 4)) = _
          rw [bI1 c1]
          rfl
        have eM : lM (rl9 w f1 f2) n f = lM (rl10 w f1 f2) (n + 1) (14) := (if_pos (bI1 c1)).trans (by rw [if_pos (show n = 0 by omega)])
        rw [eC, eM]
        exact hK10 hc16 _ _ _ hw16 hm16 (by omega) (hL112.sel [0, 1, 2, 3, 4, 5, 6, 7] rfl)
  have hK8 : ∀ (hc : ev_H) (n f : Int) (L : ev_L), y_in yGw hc → gi hc = m → (0 ≤ n ∧ n ≤ 8) → f_L L [(7, fi (8)), (5, fi (n)), (6, fi (f)), (0, .ref 55), (1, fi (x)), (2, fi (y)), (3, fi (k)), (4, fi (t))] → x_W none (1, 0, 8, 4, 11, 5, 122, 0, 0, ev_t181) 55 L [] hc 0 0 (fun r' h' => r' = some (fi (if t = 0 then lC (rl8 w f1 f2) n else lM (rl8 w f1 f2) n f)) ∧ y_in yGw h' ∧ gi h' = m) := fun hc n f L hw hm rn hL => by
    refine f_il 0 rfl hL rfl ?_
    refine f_bipush (n := 25) rfl (by decide) ?_
    refine f_ic rfl (by decide) (by decide) (fun c_9 => absurd (show (25 : Int) ≤ (8 : Int) from c_9) (by decide)) (fun _ => ?_)
    refine f_aln 3 rfl hL rfl ?_
    refine f_iln 4 rfl hL rfl ?_
    refine f_iln 5 rfl hL rfl ?_
    refine f_iln 6 rfl hL rfl ?_
    refine f_il 0 rfl hL rfl ?_
    refine f_s [fi (5), fi (8), fi (k), fi (y), fi (x), .ref 55] rfl rfl ?_
    refine f_idiv rfl (by decide) (by decide) (by decide) (by decide) ?_
    refine b_eq (x := 1) (by decide) ?_
    refine f_il 0 rfl hL rfl ?_
    refine f_s [fi (5), fi (8), fi (1), fi (k), fi (y), fi (x), .ref 55] rfl rfl ?_
    refine f_irem rfl (by decide) (by decide) (by decide) (by decide) ?_
    refine b_eq (x := 3) (by decide) ?_
    refine m_k1 (t180 (a := 1) (b := 3) (by decide) (by decide) x1 y1 k1 hwv h0 h1 h2) hw hm rfl rfl rfl (m_ar so55 hw rfl) rfl (fun hc17 hw17 hm17 => ?_)
    refine f_if rfl (bI_r _) (fun c1 => ?_) (fun c1 => ?_)
    · have c1 : (bI (rR0 w f1 f2 1 3) : Int) = (0 : Int) := c1
      refine f_inc 0 [(7, fi (9)), (5, fi (n)), (6, fi (f)), (0, .ref 55), (1, fi (x)), (2, fi (y)), (3, fi (k)), (4, fi (t))] rfl (by decide) hL rfl rfl (fun L113 hL113 => ?_)
      refine f_goto rfl ?_
      have eC : lC (rl8 w f1 f2) n = lC (rl9 w f1 f2) n := by
        show lC (rl9 w f1 f2) (n + bI (rR0 w f1 f2 1 3)) = _
        rw [bI0 c1]
        show lC (rl9 w f1 f2) (n + 0) = _
        rw [Int.add_zero]
      have eM : lM (rl8 w f1 f2) n f = lM (rl9 w f1 f2) n f := if_neg (by rw [bI0 c1]; decide)
      rw [eC, eM]
      exact hK9 hc17 _ _ _ hw17 hm17 (by omega) (hL113.sel [0, 1, 2, 3, 4, 5, 6, 7] rfl)
    · have c1 : ¬ ((bI (rR0 w f1 f2 1 3) : Int) = (0 : Int)) := c1
      refine f_il 1 rfl hL rfl ?_
      refine f_if rfl (by omega) (fun c2 => ?_) (fun c2 => ?_)
      · have c2 : ¬ (n : Int) = (0 : Int) := c2
        refine f_il 2 rfl hL rfl ?_
        refine f_ist [(6, fi (f)), (7, fi (8)), (5, fi (n)), (0, .ref 55), (1, fi (x)), (2, fi (y)), (3, fi (k)), (4, fi (t))] rfl (by decide) hL rfl (fun L114 hL114 => ?_)
        refine f_inc 2 [(5, fi (n + 1)), (6, fi (f)), (7, fi (8)), (0, .ref 55), (1, fi (x)), (2, fi (y)), (3, fi (k)), (4, fi (t))] rfl (by decide) hL114 rfl rfl (fun L115 hL115 => ?_)
        refine f_inc 2 [(7, fi (9)), (5, fi (n + 1)), (6, fi (f)), (0, .ref 55), (1, fi (x)), (2, fi (y)), (3, fi (k)), (4, fi (t))] rfl (by decide) hL115 rfl rfl (fun L116 hL116 => ?_)
        refine f_goto rfl ?_
        have eC : lC (rl8 w f1 f2) n = lC (rl9 w f1 f2) (n + 1) := by
          show lC (rl9 w f1 f2) (n + bI (rR0 w f1 f2 1 3)) = _
          rw [bI1 c1]
          rfl
        have eM : lM (rl8 w f1 f2) n f = lM (rl9 w f1 f2) (n + 1) (f) := (if_pos (bI1 c1)).trans (by rw [if_neg (show ¬ n = 0 by omega)])
        rw [eC, eM]
        exact hK9 hc17 _ _ _ hw17 hm17 (by omega) (hL116.sel [0, 1, 2, 3, 4, 5, 6, 7] rfl)
      · have c2 : ¬ (¬ (n : Int) = (0 : Int)) := c2
        refine f_bipush (n := 10) rfl (by decide) ?_
        refine f_il 0 rfl hL rfl ?_
        refine f_s [fi (5), fi (8), fi (10)] rfl rfl ?_
        refine f_idiv rfl (by decide) (by decide) (by decide) (by decide) ?_
        refine b_eq (x := 1) (by decide) ?_
        refine f_imul rfl ?_
        refine b_eq (x := 10) (by decide) ?_
        refine f_il 0 rfl hL rfl ?_
        refine f_s [fi (5), fi (8), fi (10)] rfl rfl ?_
        refine f_irem rfl (by decide) (by decide) (by decide) (by decide) ?_
        refine b_eq (x := 3) (by decide) ?_
        refine f_iadd rfl ?_
        refine b_eq (x := 13) (by decide) ?_
        refine f_goto rfl ?_
        refine f_ist [(6, fi (13)), (7, fi (8)), (5, fi (n)), (0, .ref 55), (1, fi (x)), (2, fi (y)), (3, fi (k)), (4, fi (t))] rfl (by decide) hL rfl (fun L117 hL117 => ?_)
        refine f_inc 2 [(5, fi (n + 1)), (6, fi (13)), (7, fi (8)), (0, .ref 55), (1, fi (x)), (2, fi (y)), (3, fi (k)), (4, fi (t))] rfl (by decide) hL117 rfl rfl (fun L118 hL118 => ?_)
        refine f_inc 2 [(7, fi (9)), (5, fi (n + 1)), (6, fi (13)), (0, .ref 55), (1, fi (x)), (2, fi (y)), (3, fi (k)), (4, fi (t))] rfl (by decide) hL118 rfl rfl (fun L119 hL119 => ?_)
        refine f_goto rfl ?_
        have eC : lC (rl8 w f1 f2) n = lC (rl9 w f1 f2) (n + 1) := by
          show lC (rl9 w f1 f2) (n + bI (rR0 w f1 f2 1 3)) = _
          rw [bI1 c1]
          rfl
        have eM : lM (rl8 w f1 f2) n f = lM (rl9 w f1 f2) (n + 1) (13) := (if_pos (bI1 c1)).trans (by rw [if_pos (show n = 0 by omega)])
        rw [eC, eM]
        exact hK9 hc17 _ _ _ hw17 hm17 (by omega) (hL119.sel [0, 1, 2, 3, 4, 5, 6, 7] rfl)
  have hK7 : ∀ (hc : ev_H) (n f : Int) (L : ev_L), y_in yGw hc → gi hc = m → (0 ≤ n ∧ n ≤ 7) → f_L L [(7, fi (7)), (5, fi (n)), (6, fi (f)), (0, .ref 55), (1, fi (x)), (2, fi (y)), (3, fi (k)), (4, fi (t))] → x_W none (1, 0, 8, 4, 11, 5, 122, 0, 0, ev_t181) 55 L [] hc 0 0 (fun r' h' => r' = some (fi (if t = 0 then lC (rl7 w f1 f2) n else lM (rl7 w f1 f2) n f)) ∧ y_in yGw h' ∧ gi h' = m) := fun hc n f L hw hm rn hL => by
    refine f_il 0 rfl hL rfl ?_
    refine f_bipush (n := 25) rfl (by decide) ?_
    refine f_ic rfl (by decide) (by decide) (fun c_9 => absurd (show (25 : Int) ≤ (7 : Int) from c_9) (by decide)) (fun _ => ?_)
    refine f_aln 3 rfl hL rfl ?_
    refine f_iln 4 rfl hL rfl ?_
    refine f_iln 5 rfl hL rfl ?_
    refine f_iln 6 rfl hL rfl ?_
    refine f_il 0 rfl hL rfl ?_
    refine f_s [fi (5), fi (7), fi (k), fi (y), fi (x), .ref 55] rfl rfl ?_
    refine f_idiv rfl (by decide) (by decide) (by decide) (by decide) ?_
    refine b_eq (x := 1) (by decide) ?_
    refine f_il 0 rfl hL rfl ?_
    refine f_s [fi (5), fi (7), fi (1), fi (k), fi (y), fi (x), .ref 55] rfl rfl ?_
    refine f_irem rfl (by decide) (by decide) (by decide) (by decide) ?_
    refine b_eq (x := 2) (by decide) ?_
    refine m_k1 (t180 (a := 1) (b := 2) (by decide) (by decide) x1 y1 k1 hwv h0 h1 h2) hw hm rfl rfl rfl (m_ar so55 hw rfl) rfl (fun hc18 hw18 hm18 => ?_)
    refine f_if rfl (bI_r _) (fun c1 => ?_) (fun c1 => ?_)
    · have c1 : (bI (rR0 w f1 f2 1 2) : Int) = (0 : Int) := c1
      refine f_inc 0 [(7, fi (8)), (5, fi (n)), (6, fi (f)), (0, .ref 55), (1, fi (x)), (2, fi (y)), (3, fi (k)), (4, fi (t))] rfl (by decide) hL rfl rfl (fun L120 hL120 => ?_)
      refine f_goto rfl ?_
      have eC : lC (rl7 w f1 f2) n = lC (rl8 w f1 f2) n := by
        show lC (rl8 w f1 f2) (n + bI (rR0 w f1 f2 1 2)) = _
        rw [bI0 c1]
        show lC (rl8 w f1 f2) (n + 0) = _
        rw [Int.add_zero]
      have eM : lM (rl7 w f1 f2) n f = lM (rl8 w f1 f2) n f := if_neg (by rw [bI0 c1]; decide)
      rw [eC, eM]
      exact hK8 hc18 _ _ _ hw18 hm18 (by omega) (hL120.sel [0, 1, 2, 3, 4, 5, 6, 7] rfl)
    · have c1 : ¬ ((bI (rR0 w f1 f2 1 2) : Int) = (0 : Int)) := c1
      refine f_il 1 rfl hL rfl ?_
      refine f_if rfl (by omega) (fun c2 => ?_) (fun c2 => ?_)
      · have c2 : ¬ (n : Int) = (0 : Int) := c2
        refine f_il 2 rfl hL rfl ?_
        refine f_ist [(6, fi (f)), (7, fi (7)), (5, fi (n)), (0, .ref 55), (1, fi (x)), (2, fi (y)), (3, fi (k)), (4, fi (t))] rfl (by decide) hL rfl (fun L121 hL121 => ?_)
        refine f_inc 2 [(5, fi (n + 1)), (6, fi (f)), (7, fi (7)), (0, .ref 55), (1, fi (x)), (2, fi (y)), (3, fi (k)), (4, fi (t))] rfl (by decide) hL121 rfl rfl (fun L122 hL122 => ?_)
        refine f_inc 2 [(7, fi (8)), (5, fi (n + 1)), (6, fi (f)), (0, .ref 55), (1, fi (x)), (2, fi (y)), (3, fi (k)), (4, fi (t))] rfl (by decide) hL122 rfl rfl (fun L123 hL123 => ?_)
        refine f_goto rfl ?_
        have eC : lC (rl7 w f1 f2) n = lC (rl8 w f1 f2) (n + 1) := by
          show lC (rl8 w f1 f2) (n + bI (rR0 w f1 f2 1 2)) = _
          rw [bI1 c1]
          rfl
        have eM : lM (rl7 w f1 f2) n f = lM (rl8 w f1 f2) (n + 1) (f) := (if_pos (bI1 c1)).trans (by rw [if_neg (show ¬ n = 0 by omega)])
        rw [eC, eM]
        exact hK8 hc18 _ _ _ hw18 hm18 (by omega) (hL123.sel [0, 1, 2, 3, 4, 5, 6, 7] rfl)
      · have c2 : ¬ (¬ (n : Int) = (0 : Int)) := c2
        refine f_bipush (n := 10) rfl (by decide) ?_
        refine f_il 0 rfl hL rfl ?_
        refine f_s [fi (5), fi (7), fi (10)] rfl rfl ?_
        refine f_idiv rfl (by decide) (by decide) (by decide) (by decide) ?_
        refine b_eq (x := 1) (by decide) ?_
        refine f_imul rfl ?_
        refine b_eq (x := 10) (by decide) ?_
        refine f_il 0 rfl hL rfl ?_
        refine f_s [fi (5), fi (7), fi (10)] rfl rfl ?_
        refine f_irem rfl (by decide) (by decide) (by decide) (by decide) ?_
        refine b_eq (x := 2) (by decide) ?_
        refine f_iadd rfl ?_
        refine b_eq (x := 12) (by decide) ?_
        refine f_goto rfl ?_
        refine f_ist [(6, fi (12)), (7, fi (7)), (5, fi (n)), (0, .ref 55), (1, fi (x)), (2, fi (y)), (3, fi (k)), (4, fi (t))] rfl (by decide) hL rfl (fun L124 hL124 => ?_)
        refine f_inc 2 [(5, fi (n + 1)), (6, fi (12)), (7, fi (7)), (0, .ref 55), (1, fi (x)), (2, fi (y)), (3, fi (k)), (4, fi (t))] rfl (by decide) hL124 rfl rfl (fun L125 hL125 => ?_)
        refine f_inc 2 [(7, fi (8)), (5, fi (n + 1)), (6, fi (12)), (0, .ref 55), (1, fi (x)), (2, fi (y)), (3, fi (k)), (4, fi (t))] rfl (by decide) hL125 rfl rfl (fun L126 hL126 => ?_)
        refine f_goto rfl ?_
        have eC : lC (rl7 w f1 f2) n = lC (rl8 w f1 f2) (n + 1) := by
          show lC (rl8 w f1 f2) (n + bI (rR0 w f1 f2 1 2)) = _
          rw [bI1 c1]
          rfl
        have eM : lM (rl7 w f1 f2) n f = lM (rl8 w f1 f2) (n + 1) (12) := (if_pos (bI1 c1)).trans (by rw [if_pos (show n = 0 by omega)])
        rw [eC, eM]
        exact hK8 hc18 _ _ _ hw18 hm18 (by omega) (hL126.sel [0, 1, 2, 3, 4, 5, 6, 7] rfl)
  have hK6 : ∀ (hc : ev_H) (n f : Int) (L : ev_L), y_in yGw hc → gi hc = m → (0 ≤ n ∧ n ≤ 6) → f_L L [(7, fi (6)), (5, fi (n)), (6, fi (f)), (0, .ref 55), (1, fi (x)), (2, fi (y)), (3, fi (k)), (4, fi (t))] → x_W none (1, 0, 8, 4, 11, 5, 122, 0, 0, ev_t181) 55 L [] hc 0 0 (fun r' h' => r' = some (fi (if t = 0 then lC (rl6 w f1 f2) n else lM (rl6 w f1 f2) n f)) ∧ y_in yGw h' ∧ gi h' = m) := fun hc n f L hw hm rn hL => by
    refine f_il 0 rfl hL rfl ?_
    refine f_bipush (n := 25) rfl (by decide) ?_
    refine f_ic rfl (by decide) (by decide) (fun c_9 => absurd (show (25 : Int) ≤ (6 : Int) from c_9) (by decide)) (fun _ => ?_)
    refine f_aln 3 rfl hL rfl ?_
    refine f_iln 4 rfl hL rfl ?_
    refine f_iln 5 rfl hL rfl ?_
    refine f_iln 6 rfl hL rfl ?_
    refine f_il 0 rfl hL rfl ?_
    refine f_s [fi (5), fi (6), fi (k), fi (y), fi (x), .ref 55] rfl rfl ?_
    refine f_idiv rfl (by decide) (by decide) (by decide) (by decide) ?_
    refine b_eq (x := 1) (by decide) ?_
    refine f_il 0 rfl hL rfl ?_
    refine f_s [fi (5), fi (6), fi (1), fi (k), fi (y), fi (x), .ref 55] rfl rfl ?_
    refine f_irem rfl (by decide) (by decide) (by decide) (by decide) ?_
    refine b_eq (x := 1) (by decide) ?_
    refine m_k1 (t180 (a := 1) (b := 1) (by decide) (by decide) x1 y1 k1 hwv h0 h1 h2) hw hm rfl rfl rfl (m_ar so55 hw rfl) rfl (fun hc19 hw19 hm19 => ?_)
    refine f_if rfl (bI_r _) (fun c1 => ?_) (fun c1 => ?_)
    · have c1 : (bI (rR0 w f1 f2 1 1) : Int) = (0 : Int) := c1
      refine f_inc 0 [(7, fi (7)), (5, fi (n)), (6, fi (f)), (0, .ref 55), (1, fi (x)), (2, fi (y)), (3, fi (k)), (4, fi (t))] rfl (by decide) hL rfl rfl (fun L127 hL127 => ?_)
      refine f_goto rfl ?_
      have eC : lC (rl6 w f1 f2) n = lC (rl7 w f1 f2) n := by
        show lC (rl7 w f1 f2) (n + bI (rR0 w f1 f2 1 1)) = _
        rw [bI0 c1]
        show lC (rl7 w f1 f2) (n + 0) = _
        rw [Int.add_zero]
      have eM : lM (rl6 w f1 f2) n f = lM (rl7 w f1 f2) n f := if_neg (by rw [bI0 c1]; decide)
      rw [eC, eM]
      exact hK7 hc19 _ _ _ hw19 hm19 (by omega) (hL127.sel [0, 1, 2, 3, 4, 5, 6, 7] rfl)
    · have c1 : ¬ ((bI (rR0 w f1 f2 1 1) : Int) = (0 : Int)) := c1
      refine f_il 1 rfl hL rfl ?_
      refine f_if rfl (by omega) (fun c2 => ?_) (fun c2 => ?_)
      · have c2 : ¬ (n : Int) = (0 : Int) := c2
        refine f_il 2 rfl hL rfl ?_
        refine f_ist [(6, fi (f)), (7, fi (6)), (5, fi (n)), (0, .ref 55), (1, fi (x)), (2, fi (y)), (3, fi (k)), (4, fi (t))] rfl (by decide) hL rfl (fun L128 hL128 => ?_)
        refine f_inc 2 [(5, fi (n + 1)), (6, fi (f)), (7, fi (6)), (0, .ref 55), (1, fi (x)), (2, fi (y)), (3, fi (k)), (4, fi (t))] rfl (by decide) hL128 rfl rfl (fun L129 hL129 => ?_)
        refine f_inc 2 [(7, fi (7)), (5, fi (n + 1)), (6, fi (f)), (0, .ref 55), (1, fi (x)), (2, fi (y)), (3, fi (k)), (4, fi (t))] rfl (by decide) hL129 rfl rfl (fun L130 hL130 => ?_)
        refine f_goto rfl ?_
        have eC : lC (rl6 w f1 f2) n = lC (rl7 w f1 f2) (n + 1) := by
          show lC (rl7 w f1 f2) (n + bI (rR0 w f1 f2 1 1)) = _
          rw [bI1 c1]
          rfl
        have eM : lM (rl6 w f1 f2) n f = lM (rl7 w f1 f2) (n + 1) (f) := (if_pos (bI1 c1)).trans (by rw [if_neg (show ¬ n = 0 by omega)])
        rw [eC, eM]
        exact hK7 hc19 _ _ _ hw19 hm19 (by omega) (hL130.sel [0, 1, 2, 3, 4, 5, 6, 7] rfl)
      · have c2 : ¬ (¬ (n : Int) = (0 : Int)) := c2
        refine f_bipush (n := 10) rfl (by decide) ?_
        refine f_il 0 rfl hL rfl ?_
        refine f_s [fi (5), fi (6), fi (10)] rfl rfl ?_
        refine f_idiv rfl (by decide) (by decide) (by decide) (by decide) ?_
        refine b_eq (x := 1) (by decide) ?_
        refine f_imul rfl ?_
        refine b_eq (x := 10) (by decide) ?_
        refine f_il 0 rfl hL rfl ?_
        refine f_s [fi (5), fi (6), fi (10)] rfl rfl ?_
        refine f_irem rfl (by decide) (by decide) (by decide) (by decide) ?_
        refine b_eq (x := 1) (by decide) ?_
        refine f_iadd rfl ?_
        refine b_eq (x := 11) (by decide) ?_
        refine f_goto rfl ?_
        refine f_ist [(6, fi (11)), (7, fi (6)), (5, fi (n)), (0, .ref 55), (1, fi (x)), (2, fi (y)), (3, fi (k)), (4, fi (t))] rfl (by decide) hL rfl (fun L131 hL131 => ?_)
        refine f_inc 2 [(5, fi (n + 1)), (6, fi (11)), (7, fi (6)), (0, .ref 55), (1, fi (x)), (2, fi (y)), (3, fi (k)), (4, fi (t))] rfl (by decide) hL131 rfl rfl (fun L132 hL132 => ?_)
        refine f_inc 2 [(7, fi (7)), (5, fi (n + 1)), (6, fi (11)), (0, .ref 55), (1, fi (x)), (2, fi (y)), (3, fi (k)), (4, fi (t))] rfl (by decide) hL132 rfl rfl (fun L133 hL133 => ?_)
        refine f_goto rfl ?_
        have eC : lC (rl6 w f1 f2) n = lC (rl7 w f1 f2) (n + 1) := by
          show lC (rl7 w f1 f2) (n + bI (rR0 w f1 f2 1 1)) = _
          rw [bI1 c1]
          rfl
        have eM : lM (rl6 w f1 f2) n f = lM (rl7 w f1 f2) (n + 1) (11) := (if_pos (bI1 c1)).trans (by rw [if_pos (show n = 0 by omega)])
        rw [eC, eM]
        exact hK7 hc19 _ _ _ hw19 hm19 (by omega) (hL133.sel [0, 1, 2, 3, 4, 5, 6, 7] rfl)
  have hK5 : ∀ (hc : ev_H) (n f : Int) (L : ev_L), y_in yGw hc → gi hc = m → (0 ≤ n ∧ n ≤ 5) → f_L L [(7, fi (5)), (5, fi (n)), (6, fi (f)), (0, .ref 55), (1, fi (x)), (2, fi (y)), (3, fi (k)), (4, fi (t))] → x_W none (1, 0, 8, 4, 11, 5, 122, 0, 0, ev_t181) 55 L [] hc 0 0 (fun r' h' => r' = some (fi (if t = 0 then lC (rl5 w f1 f2) n else lM (rl5 w f1 f2) n f)) ∧ y_in yGw h' ∧ gi h' = m) := fun hc n f L hw hm rn hL => by
    refine f_il 0 rfl hL rfl ?_
    refine f_bipush (n := 25) rfl (by decide) ?_
    refine f_ic rfl (by decide) (by decide) (fun c_9 => absurd (show (25 : Int) ≤ (5 : Int) from c_9) (by decide)) (fun _ => ?_)
    refine f_aln 3 rfl hL rfl ?_
    refine f_iln 4 rfl hL rfl ?_
    refine f_iln 5 rfl hL rfl ?_
    refine f_iln 6 rfl hL rfl ?_
    refine f_il 0 rfl hL rfl ?_
    refine f_s [fi (5), fi (5), fi (k), fi (y), fi (x), .ref 55] rfl rfl ?_
    refine f_idiv rfl (by decide) (by decide) (by decide) (by decide) ?_
    refine b_eq (x := 1) (by decide) ?_
    refine f_il 0 rfl hL rfl ?_
    refine f_s [fi (5), fi (5), fi (1), fi (k), fi (y), fi (x), .ref 55] rfl rfl ?_
    refine f_irem rfl (by decide) (by decide) (by decide) (by decide) ?_
    refine b_eq (x := 0) (by decide) ?_
    refine m_k1 (t180 (a := 1) (b := 0) (by decide) (by decide) x1 y1 k1 hwv h0 h1 h2) hw hm rfl rfl rfl (m_ar so55 hw rfl) rfl (fun hc20 hw20 hm20 => ?_)
    refine f_if rfl (bI_r _) (fun c1 => ?_) (fun c1 => ?_)
    · have c1 : (bI (rR0 w f1 f2 1 0) : Int) = (0 : Int) := c1
      refine f_inc 0 [(7, fi (6)), (5, fi (n)), (6, fi (f)), (0, .ref 55), (1, fi (x)), (2, fi (y)), (3, fi (k)), (4, fi (t))] rfl (by decide) hL rfl rfl (fun L134 hL134 => ?_)
      refine f_goto rfl ?_
      have eC : lC (rl5 w f1 f2) n = lC (rl6 w f1 f2) n := by
        show lC (rl6 w f1 f2) (n + bI (rR0 w f1 f2 1 0)) = _
        rw [bI0 c1]
        show lC (rl6 w f1 f2) (n + 0) = _
        rw [Int.add_zero]
      have eM : lM (rl5 w f1 f2) n f = lM (rl6 w f1 f2) n f := if_neg (by rw [bI0 c1]; decide)
      rw [eC, eM]
      exact hK6 hc20 _ _ _ hw20 hm20 (by omega) (hL134.sel [0, 1, 2, 3, 4, 5, 6, 7] rfl)
    · have c1 : ¬ ((bI (rR0 w f1 f2 1 0) : Int) = (0 : Int)) := c1
      refine f_il 1 rfl hL rfl ?_
      refine f_if rfl (by omega) (fun c2 => ?_) (fun c2 => ?_)
      · have c2 : ¬ (n : Int) = (0 : Int) := c2
        refine f_il 2 rfl hL rfl ?_
        refine f_ist [(6, fi (f)), (7, fi (5)), (5, fi (n)), (0, .ref 55), (1, fi (x)), (2, fi (y)), (3, fi (k)), (4, fi (t))] rfl (by decide) hL rfl (fun L135 hL135 => ?_)
        refine f_inc 2 [(5, fi (n + 1)), (6, fi (f)), (7, fi (5)), (0, .ref 55), (1, fi (x)), (2, fi (y)), (3, fi (k)), (4, fi (t))] rfl (by decide) hL135 rfl rfl (fun L136 hL136 => ?_)
        refine f_inc 2 [(7, fi (6)), (5, fi (n + 1)), (6, fi (f)), (0, .ref 55), (1, fi (x)), (2, fi (y)), (3, fi (k)), (4, fi (t))] rfl (by decide) hL136 rfl rfl (fun L137 hL137 => ?_)
        refine f_goto rfl ?_
        have eC : lC (rl5 w f1 f2) n = lC (rl6 w f1 f2) (n + 1) := by
          show lC (rl6 w f1 f2) (n + bI (rR0 w f1 f2 1 0)) = _
          rw [bI1 c1]
          rfl
        have eM : lM (rl5 w f1 f2) n f = lM (rl6 w f1 f2) (n + 1) (f) := (if_pos (bI1 c1)).trans (by rw [if_neg (show ¬ n = 0 by omega)])
        rw [eC, eM]
        exact hK6 hc20 _ _ _ hw20 hm20 (by omega) (hL137.sel [0, 1, 2, 3, 4, 5, 6, 7] rfl)
      · have c2 : ¬ (¬ (n : Int) = (0 : Int)) := c2
        refine f_bipush (n := 10) rfl (by decide) ?_
        refine f_il 0 rfl hL rfl ?_
        refine f_s [fi (5), fi (5), fi (10)] rfl rfl ?_
        refine f_idiv rfl (by decide) (by decide) (by decide) (by decide) ?_
        refine b_eq (x := 1) (by decide) ?_
        refine f_imul rfl ?_
        refine b_eq (x := 10) (by decide) ?_
        refine f_il 0 rfl hL rfl ?_
        refine f_s [fi (5), fi (5), fi (10)] rfl rfl ?_
        refine f_irem rfl (by decide) (by decide) (by decide) (by decide) ?_
        refine b_eq (x := 0) (by decide) ?_
        refine f_iadd rfl ?_
        refine b_eq (x := 10) (by decide) ?_
        refine f_goto rfl ?_
        refine f_ist [(6, fi (10)), (7, fi (5)), (5, fi (n)), (0, .ref 55), (1, fi (x)), (2, fi (y)), (3, fi (k)), (4, fi (t))] rfl (by decide) hL rfl (fun L138 hL138 => ?_)
        refine f_inc 2 [(5, fi (n + 1)), (6, fi (10)), (7, fi (5)), (0, .ref 55), (1, fi (x)), (2, fi (y)), (3, fi (k)), (4, fi (t))] rfl (by decide) hL138 rfl rfl (fun L139 hL139 => ?_)
        refine f_inc 2 [(7, fi (6)), (5, fi (n + 1)), (6, fi (10)), (0, .ref 55), (1, fi (x)), (2, fi (y)), (3, fi (k)), (4, fi (t))] rfl (by decide) hL139 rfl rfl (fun L140 hL140 => ?_)
        refine f_goto rfl ?_
        have eC : lC (rl5 w f1 f2) n = lC (rl6 w f1 f2) (n + 1) := by
          show lC (rl6 w f1 f2) (n + bI (rR0 w f1 f2 1 0)) = _
          rw [bI1 c1]
          rfl
        have eM : lM (rl5 w f1 f2) n f = lM (rl6 w f1 f2) (n + 1) (10) := (if_pos (bI1 c1)).trans (by rw [if_pos (show n = 0 by omega)])
        rw [eC, eM]
        exact hK6 hc20 _ _ _ hw20 hm20 (by omega) (hL140.sel [0, 1, 2, 3, 4, 5, 6, 7] rfl)
  have hK4 : ∀ (hc : ev_H) (n f : Int) (L : ev_L), y_in yGw hc → gi hc = m → (0 ≤ n ∧ n ≤ 4) → f_L L [(7, fi (4)), (5, fi (n)), (6, fi (f)), (0, .ref 55), (1, fi (x)), (2, fi (y)), (3, fi (k)), (4, fi (t))] → x_W none (1, 0, 8, 4, 11, 5, 122, 0, 0, ev_t181) 55 L [] hc 0 0 (fun r' h' => r' = some (fi (if t = 0 then lC (rl4 w f1 f2) n else lM (rl4 w f1 f2) n f)) ∧ y_in yGw h' ∧ gi h' = m) := fun hc n f L hw hm rn hL => by
    refine f_il 0 rfl hL rfl ?_
    refine f_bipush (n := 25) rfl (by decide) ?_
    refine f_ic rfl (by decide) (by decide) (fun c_9 => absurd (show (25 : Int) ≤ (4 : Int) from c_9) (by decide)) (fun _ => ?_)
    refine f_aln 3 rfl hL rfl ?_
    refine f_iln 4 rfl hL rfl ?_
    refine f_iln 5 rfl hL rfl ?_
    refine f_iln 6 rfl hL rfl ?_
    refine f_il 0 rfl hL rfl ?_
    refine f_s [fi (5), fi (4), fi (k), fi (y), fi (x), .ref 55] rfl rfl ?_
    refine f_idiv rfl (by decide) (by decide) (by decide) (by decide) ?_
    refine b_eq (x := 0) (by decide) ?_
    refine f_il 0 rfl hL rfl ?_
    refine f_s [fi (5), fi (4), fi (0), fi (k), fi (y), fi (x), .ref 55] rfl rfl ?_
    refine f_irem rfl (by decide) (by decide) (by decide) (by decide) ?_
    refine b_eq (x := 4) (by decide) ?_
    refine m_k1 (t180 (a := 0) (b := 4) (by decide) (by decide) x1 y1 k1 hwv h0 h1 h2) hw hm rfl rfl rfl (m_ar so55 hw rfl) rfl (fun hc21 hw21 hm21 => ?_)
    refine f_if rfl (bI_r _) (fun c1 => ?_) (fun c1 => ?_)
    · have c1 : (bI (rR0 w f1 f2 0 4) : Int) = (0 : Int) := c1
      refine f_inc 0 [(7, fi (5)), (5, fi (n)), (6, fi (f)), (0, .ref 55), (1, fi (x)), (2, fi (y)), (3, fi (k)), (4, fi (t))] rfl (by decide) hL rfl rfl (fun L141 hL141 => ?_)
      refine f_goto rfl ?_
      have eC : lC (rl4 w f1 f2) n = lC (rl5 w f1 f2) n := by
        show lC (rl5 w f1 f2) (n + bI (rR0 w f1 f2 0 4)) = _
        rw [bI0 c1]
        show lC (rl5 w f1 f2) (n + 0) = _
        rw [Int.add_zero]
      have eM : lM (rl4 w f1 f2) n f = lM (rl5 w f1 f2) n f := if_neg (by rw [bI0 c1]; decide)
      rw [eC, eM]
      exact hK5 hc21 _ _ _ hw21 hm21 (by omega) (hL141.sel [0, 1, 2, 3, 4, 5, 6, 7] rfl)
    · have c1 : ¬ ((bI (rR0 w f1 f2 0 4) : Int) = (0 : Int)) := c1
      refine f_il 1 rfl hL rfl ?_
      refine f_if rfl (by omega) (fun c2 => ?_) (fun c2 => ?_)
      · have c2 : ¬ (n : Int) = (0 : Int) := c2
        refine f_il 2 rfl hL rfl ?_
        refine f_ist [(6, fi (f)), (7, fi (4)), (5, fi (n)), (0, .ref 55), (1, fi (x)), (2, fi (y)), (3, fi (k)), (4, fi (t))] rfl (by decide) hL rfl (fun L142 hL142 => ?_)
        refine f_inc 2 [(5, fi (n + 1)), (6, fi (f)), (7, fi (4)), (0, .ref 55), (1, fi (x)), (2, fi (y)), (3, fi (k)), (4, fi (t))] rfl (by decide) hL142 rfl rfl (fun L143 hL143 => ?_)
        refine f_inc 2 [(7, fi (5)), (5, fi (n + 1)), (6, fi (f)), (0, .ref 55), (1, fi (x)), (2, fi (y)), (3, fi (k)), (4, fi (t))] rfl (by decide) hL143 rfl rfl (fun L144 hL144 => ?_)
        refine f_goto rfl ?_
        have eC : lC (rl4 w f1 f2) n = lC (rl5 w f1 f2) (n + 1) := by
          show lC (rl5 w f1 f2) (n + bI (rR0 w f1 f2 0 4)) = _
          rw [bI1 c1]
          rfl
        have eM : lM (rl4 w f1 f2) n f = lM (rl5 w f1 f2) (n + 1) (f) := (if_pos (bI1 c1)).trans (by rw [if_neg (show ¬ n = 0 by omega)])
        rw [eC, eM]
        exact hK5 hc21 _ _ _ hw21 hm21 (by omega) (hL144.sel [0, 1, 2, 3, 4, 5, 6, 7] rfl)
      · have c2 : ¬ (¬ (n : Int) = (0 : Int)) := c2
        refine f_bipush (n := 10) rfl (by decide) ?_
        refine f_il 0 rfl hL rfl ?_
        refine f_s [fi (5), fi (4), fi (10)] rfl rfl ?_
        refine f_idiv rfl (by decide) (by decide) (by decide) (by decide) ?_
        refine b_eq (x := 0) (by decide) ?_
        refine f_imul rfl ?_
        refine b_eq (x := 0) (by decide) ?_
        refine f_il 0 rfl hL rfl ?_
        refine f_s [fi (5), fi (4), fi (0)] rfl rfl ?_
        refine f_irem rfl (by decide) (by decide) (by decide) (by decide) ?_
        refine b_eq (x := 4) (by decide) ?_
        refine f_iadd rfl ?_
        refine b_eq (x := 4) (by decide) ?_
        refine f_goto rfl ?_
        refine f_ist [(6, fi (4)), (7, fi (4)), (5, fi (n)), (0, .ref 55), (1, fi (x)), (2, fi (y)), (3, fi (k)), (4, fi (t))] rfl (by decide) hL rfl (fun L145 hL145 => ?_)
        refine f_inc 2 [(5, fi (n + 1)), (6, fi (4)), (7, fi (4)), (0, .ref 55), (1, fi (x)), (2, fi (y)), (3, fi (k)), (4, fi (t))] rfl (by decide) hL145 rfl rfl (fun L146 hL146 => ?_)
        refine f_inc 2 [(7, fi (5)), (5, fi (n + 1)), (6, fi (4)), (0, .ref 55), (1, fi (x)), (2, fi (y)), (3, fi (k)), (4, fi (t))] rfl (by decide) hL146 rfl rfl (fun L147 hL147 => ?_)
        refine f_goto rfl ?_
        have eC : lC (rl4 w f1 f2) n = lC (rl5 w f1 f2) (n + 1) := by
          show lC (rl5 w f1 f2) (n + bI (rR0 w f1 f2 0 4)) = _
          rw [bI1 c1]
          rfl
        have eM : lM (rl4 w f1 f2) n f = lM (rl5 w f1 f2) (n + 1) (4) := (if_pos (bI1 c1)).trans (by rw [if_pos (show n = 0 by omega)])
        rw [eC, eM]
        exact hK5 hc21 _ _ _ hw21 hm21 (by omega) (hL147.sel [0, 1, 2, 3, 4, 5, 6, 7] rfl)
  have hK3 : ∀ (hc : ev_H) (n f : Int) (L : ev_L), y_in yGw hc → gi hc = m → (0 ≤ n ∧ n ≤ 3) → f_L L [(7, fi (3)), (5, fi (n)), (6, fi (f)), (0, .ref 55), (1, fi (x)), (2, fi (y)), (3, fi (k)), (4, fi (t))] → x_W none (1, 0, 8, 4, 11, 5, 122, 0, 0, ev_t181) 55 L [] hc 0 0 (fun r' h' => r' = some (fi (if t = 0 then lC (rl3 w f1 f2) n else lM (rl3 w f1 f2) n f)) ∧ y_in yGw h' ∧ gi h' = m) := fun hc n f L hw hm rn hL => by
    refine f_il 0 rfl hL rfl ?_
    refine f_bipush (n := 25) rfl (by decide) ?_
    refine f_ic rfl (by decide) (by decide) (fun c_9 => absurd (show (25 : Int) ≤ (3 : Int) from c_9) (by decide)) (fun _ => ?_)
    refine f_aln 3 rfl hL rfl ?_
    refine f_iln 4 rfl hL rfl ?_
    refine f_iln 5 rfl hL rfl ?_
    refine f_iln 6 rfl hL rfl ?_
    refine f_il 0 rfl hL rfl ?_
    refine f_s [fi (5), fi (3), fi (k), fi (y), fi (x), .ref 55] rfl rfl ?_
    refine f_idiv rfl (by decide) (by decide) (by decide) (by decide) ?_
    refine b_eq (x := 0) (by decide) ?_
    refine f_il 0 rfl hL rfl ?_
    refine f_s [fi (5), fi (3), fi (0), fi (k), fi (y), fi (x), .ref 55] rfl rfl ?_
    refine f_irem rfl (by decide) (by decide) (by decide) (by decide) ?_
    refine b_eq (x := 3) (by decide) ?_
    refine m_k1 (t180 (a := 0) (b := 3) (by decide) (by decide) x1 y1 k1 hwv h0 h1 h2) hw hm rfl rfl rfl (m_ar so55 hw rfl) rfl (fun hc22 hw22 hm22 => ?_)
    refine f_if rfl (bI_r _) (fun c1 => ?_) (fun c1 => ?_)
    · have c1 : (bI (rR0 w f1 f2 0 3) : Int) = (0 : Int) := c1
      refine f_inc 0 [(7, fi (4)), (5, fi (n)), (6, fi (f)), (0, .ref 55), (1, fi (x)), (2, fi (y)), (3, fi (k)), (4, fi (t))] rfl (by decide) hL rfl rfl (fun L148 hL148 => ?_)
      refine f_goto rfl ?_
      have eC : lC (rl3 w f1 f2) n = lC (rl4 w f1 f2) n := by
        show lC (rl4 w f1 f2) (n + bI (rR0 w f1 f2 0 3)) = _
        rw [bI0 c1]
        show lC (rl4 w f1 f2) (n + 0) = _
        rw [Int.add_zero]
      have eM : lM (rl3 w f1 f2) n f = lM (rl4 w f1 f2) n f := if_neg (by rw [bI0 c1]; decide)
      rw [eC, eM]
      exact hK4 hc22 _ _ _ hw22 hm22 (by omega) (hL148.sel [0, 1, 2, 3, 4, 5, 6, 7] rfl)
    · have c1 : ¬ ((bI (rR0 w f1 f2 0 3) : Int) = (0 : Int)) := c1
      refine f_il 1 rfl hL rfl ?_
      refine f_if rfl (by omega) (fun c2 => ?_) (fun c2 => ?_)
      · have c2 : ¬ (n : Int) = (0 : Int) := c2
        refine f_il 2 rfl hL rfl ?_
        refine f_ist [(6, fi (f)), (7, fi (3)), (5, fi (n)), (0, .ref 55), (1, fi (x)), (2, fi (y)), (3, fi (k)), (4, fi (t))] rfl (by decide) hL rfl (fun L149 hL149 => ?_)
        refine f_inc 2 [(5, fi (n + 1)), (6, fi (f)), (7, fi (3)), (0, .ref 55), (1, fi (x)), (2, fi (y)), (3, fi (k)), (4, fi (t))] rfl (by decide) hL149 rfl rfl (fun L150 hL150 => ?_)
        refine f_inc 2 [(7, fi (4)), (5, fi (n + 1)), (6, fi (f)), (0, .ref 55), (1, fi (x)), (2, fi (y)), (3, fi (k)), (4, fi (t))] rfl (by decide) hL150 rfl rfl (fun L151 hL151 => ?_)
        refine f_goto rfl ?_
        have eC : lC (rl3 w f1 f2) n = lC (rl4 w f1 f2) (n + 1) := by
          show lC (rl4 w f1 f2) (n + bI (rR0 w f1 f2 0 3)) = _
          rw [bI1 c1]
          rfl
        have eM : lM (rl3 w f1 f2) n f = lM (rl4 w f1 f2) (n + 1) (f) := (if_pos (bI1 c1)).trans (by rw [if_neg (show ¬ n = 0 by omega)])
        rw [eC, eM]
        exact hK4 hc22 _ _ _ hw22 hm22 (by omega) (hL151.sel [0, 1, 2, 3, 4, 5, 6, 7] rfl)
      · have c2 : ¬ (¬ (n : Int) = (0 : Int)) := c2
        refine f_bipush (n := 10) rfl (by decide) ?_
        refine f_il 0 rfl hL rfl ?_
        refine f_s [fi (5), fi (3), fi (10)] rfl rfl ?_
        refine f_idiv rfl (by decide) (by decide) (by decide) (by decide) ?_
        refine b_eq (x := 0) (by decide) ?_
        refine f_imul rfl ?_
        refine b_eq (x := 0) (by decide) ?_
        refine f_il 0 rfl hL rfl ?_
        refine f_s [fi (5), fi (3), fi (0)] rfl rfl ?_
        refine f_irem rfl (by decide) (by decide) (by decide) (by decide) ?_
        refine b_eq (x := 3) (by decide) ?_
        refine f_iadd rfl ?_
        refine b_eq (x := 3) (by decide) ?_
        refine f_goto rfl ?_
        refine f_ist [(6, fi (3)), (7, fi (3)), (5, fi (n)), (0, .ref 55), (1, fi (x)), (2, fi (y)), (3, fi (k)), (4, fi (t))] rfl (by decide) hL rfl (fun L152 hL152 => ?_)
        refine f_inc 2 [(5, fi (n + 1)), (6, fi (3)), (7, fi (3)), (0, .ref 55), (1, fi (x)), (2, fi (y)), (3, fi (k)), (4, fi (t))] rfl (by decide) hL152 rfl rfl (fun L153 hL153 => ?_)
        refine f_inc 2 [(7, fi (4)), (5, fi (n + 1)), (6, fi (3)), (0, .ref 55), (1, fi (x)), (2, fi (y)), (3, fi (k)), (4, fi (t))] rfl (by decide) hL153 rfl rfl (fun L154 hL154 => ?_)
        refine f_goto rfl ?_
        have eC : lC (rl3 w f1 f2) n = lC (rl4 w f1 f2) (n + 1) := by
          show lC (rl4 w f1 f2) (n + bI (rR0 w f1 f2 0 3)) = _
          rw [bI1 c1]
          rfl
        have eM : lM (rl3 w f1 f2) n f = lM (rl4 w f1 f2) (n + 1) (3) := (if_pos (bI1 c1)).trans (by rw [if_pos (show n = 0 by omega)])
        rw [eC, eM]
        exact hK4 hc22 _ _ _ hw22 hm22 (by omega) (hL154.sel [0, 1, 2, 3, 4, 5, 6, 7] rfl)
  have hK2 : ∀ (hc : ev_H) (n f : Int) (L : ev_L), y_in yGw hc → gi hc = m → (0 ≤ n ∧ n ≤ 2) → f_L L [(7, fi (2)), (5, fi (n)), (6, fi (f)), (0, .ref 55), (1, fi (x)), (2, fi (y)), (3, fi (k)), (4, fi (t))] → x_W none (1, 0, 8, 4, 11, 5, 122, 0, 0, ev_t181) 55 L [] hc 0 0 (fun r' h' => r' = some (fi (if t = 0 then lC (rl2 w f1 f2) n else lM (rl2 w f1 f2) n f)) ∧ y_in yGw h' ∧ gi h' = m) := fun hc n f L hw hm rn hL => by
    refine f_il 0 rfl hL rfl ?_
    refine f_bipush (n := 25) rfl (by decide) ?_
    refine f_ic rfl (by decide) (by decide) (fun c_9 => absurd (show (25 : Int) ≤ (2 : Int) from c_9) (by decide)) (fun _ => ?_)
    refine f_aln 3 rfl hL rfl ?_
    refine f_iln 4 rfl hL rfl ?_
    refine f_iln 5 rfl hL rfl ?_
    refine f_iln 6 rfl hL rfl ?_
    refine f_il 0 rfl hL rfl ?_
    refine f_s [fi (5), fi (2), fi (k), fi (y), fi (x), .ref 55] rfl rfl ?_
    refine f_idiv rfl (by decide) (by decide) (by decide) (by decide) ?_
    refine b_eq (x := 0) (by decide) ?_
    refine f_il 0 rfl hL rfl ?_
    refine f_s [fi (5), fi (2), fi (0), fi (k), fi (y), fi (x), .ref 55] rfl rfl ?_
    refine f_irem rfl (by decide) (by decide) (by decide) (by decide) ?_
    refine b_eq (x := 2) (by decide) ?_
    refine m_k1 (t180 (a := 0) (b := 2) (by decide) (by decide) x1 y1 k1 hwv h0 h1 h2) hw hm rfl rfl rfl (m_ar so55 hw rfl) rfl (fun hc23 hw23 hm23 => ?_)
    refine f_if rfl (bI_r _) (fun c1 => ?_) (fun c1 => ?_)
    · have c1 : (bI (rR0 w f1 f2 0 2) : Int) = (0 : Int) := c1
      refine f_inc 0 [(7, fi (3)), (5, fi (n)), (6, fi (f)), (0, .ref 55), (1, fi (x)), (2, fi (y)), (3, fi (k)), (4, fi (t))] rfl (by decide) hL rfl rfl (fun L155 hL155 => ?_)
      refine f_goto rfl ?_
      have eC : lC (rl2 w f1 f2) n = lC (rl3 w f1 f2) n := by
        show lC (rl3 w f1 f2) (n + bI (rR0 w f1 f2 0 2)) = _
        rw [bI0 c1]
        show lC (rl3 w f1 f2) (n + 0) = _
        rw [Int.add_zero]
      have eM : lM (rl2 w f1 f2) n f = lM (rl3 w f1 f2) n f := if_neg (by rw [bI0 c1]; decide)
      rw [eC, eM]
      exact hK3 hc23 _ _ _ hw23 hm23 (by omega) (hL155.sel [0, 1, 2, 3, 4, 5, 6, 7] rfl)
    · have c1 : ¬ ((bI (rR0 w f1 f2 0 2) : Int) = (0 : Int)) := c1
      refine f_il 1 rfl hL rfl ?_
      refine f_if rfl (by omega) (fun c2 => ?_) (fun c2 => ?_)
      · have c2 : ¬ (n : Int) = (0 : Int) := c2
        refine f_il 2 rfl hL rfl ?_
        refine f_ist [(6, fi (f)), (7, fi (2)), (5, fi (n)), (0, .ref 55), (1, fi (x)), (2, fi (y)), (3, fi (k)), (4, fi (t))] rfl (by decide) hL rfl (fun L156 hL156 => ?_)
        refine f_inc 2 [(5, fi (n + 1)), (6, fi (f)), (7, fi (2)), (0, .ref 55), (1, fi (x)), (2, fi (y)), (3, fi (k)), (4, fi (t))] rfl (by decide) hL156 rfl rfl (fun L157 hL157 => ?_)
        refine f_inc 2 [(7, fi (3)), (5, fi (n + 1)), (6, fi (f)), (0, .ref 55), (1, fi (x)), (2, fi (y)), (3, fi (k)), (4, fi (t))] rfl (by decide) hL157 rfl rfl (fun L158 hL158 => ?_)
        refine f_goto rfl ?_
        have eC : lC (rl2 w f1 f2) n = lC (rl3 w f1 f2) (n + 1) := by
          show lC (rl3 w f1 f2) (n + bI (rR0 w f1 f2 0 2)) = _
          rw [bI1 c1]
          rfl
        have eM : lM (rl2 w f1 f2) n f = lM (rl3 w f1 f2) (n + 1) (f) := (if_pos (bI1 c1)).trans (by rw [if_neg (show ¬ n = 0 by omega)])
        rw [eC, eM]
        exact hK3 hc23 _ _ _ hw23 hm23 (by omega) (hL158.sel [0, 1, 2, 3, 4, 5, 6, 7] rfl)
      · have c2 : ¬ (¬ (n : Int) = (0 : Int)) := c2
        refine f_bipush (n := 10) rfl (by decide) ?_
        refine f_il 0 rfl hL rfl ?_
        refine f_s [fi (5), fi (2), fi (10)] rfl rfl ?_
        refine f_idiv rfl (by decide) (by decide) (by decide) (by decide) ?_
        refine b_eq (x := 0) (by decide) ?_
        refine f_imul rfl ?_
        refine b_eq (x := 0) (by decide) ?_
        refine f_il 0 rfl hL rfl ?_
        refine f_s [fi (5), fi (2), fi (0)] rfl rfl ?_
        refine f_irem rfl (by decide) (by decide) (by decide) (by decide) ?_
        refine b_eq (x := 2) (by decide) ?_
        refine f_iadd rfl ?_
        refine b_eq (x := 2) (by decide) ?_
        refine f_goto rfl ?_
        refine f_ist [(6, fi (2)), (7, fi (2)), (5, fi (n)), (0, .ref 55), (1, fi (x)), (2, fi (y)), (3, fi (k)), (4, fi (t))] rfl (by decide) hL rfl (fun L159 hL159 => ?_)
        refine f_inc 2 [(5, fi (n + 1)), (6, fi (2)), (7, fi (2)), (0, .ref 55), (1, fi (x)), (2, fi (y)), (3, fi (k)), (4, fi (t))] rfl (by decide) hL159 rfl rfl (fun L160 hL160 => ?_)
        refine f_inc 2 [(7, fi (3)), (5, fi (n + 1)), (6, fi (2)), (0, .ref 55), (1, fi (x)), (2, fi (y)), (3, fi (k)), (4, fi (t))] rfl (by decide) hL160 rfl rfl (fun L161 hL161 => ?_)
        refine f_goto rfl ?_
        have eC : lC (rl2 w f1 f2) n = lC (rl3 w f1 f2) (n + 1) := by
          show lC (rl3 w f1 f2) (n + bI (rR0 w f1 f2 0 2)) = _
          rw [bI1 c1]
          rfl
        have eM : lM (rl2 w f1 f2) n f = lM (rl3 w f1 f2) (n + 1) (2) := (if_pos (bI1 c1)).trans (by rw [if_pos (show n = 0 by omega)])
        rw [eC, eM]
        exact hK3 hc23 _ _ _ hw23 hm23 (by omega) (hL161.sel [0, 1, 2, 3, 4, 5, 6, 7] rfl)
  have hK1 : ∀ (hc : ev_H) (n f : Int) (L : ev_L), y_in yGw hc → gi hc = m → (0 ≤ n ∧ n ≤ 1) → f_L L [(7, fi (1)), (5, fi (n)), (6, fi (f)), (0, .ref 55), (1, fi (x)), (2, fi (y)), (3, fi (k)), (4, fi (t))] → x_W none (1, 0, 8, 4, 11, 5, 122, 0, 0, ev_t181) 55 L [] hc 0 0 (fun r' h' => r' = some (fi (if t = 0 then lC (rl1 w f1 f2) n else lM (rl1 w f1 f2) n f)) ∧ y_in yGw h' ∧ gi h' = m) := fun hc n f L hw hm rn hL => by
    refine f_il 0 rfl hL rfl ?_
    refine f_bipush (n := 25) rfl (by decide) ?_
    refine f_ic rfl (by decide) (by decide) (fun c_9 => absurd (show (25 : Int) ≤ (1 : Int) from c_9) (by decide)) (fun _ => ?_)
    refine f_aln 3 rfl hL rfl ?_
    refine f_iln 4 rfl hL rfl ?_
    refine f_iln 5 rfl hL rfl ?_
    refine f_iln 6 rfl hL rfl ?_
    refine f_il 0 rfl hL rfl ?_
    refine f_s [fi (5), fi (1), fi (k), fi (y), fi (x), .ref 55] rfl rfl ?_
    refine f_idiv rfl (by decide) (by decide) (by decide) (by decide) ?_
    refine b_eq (x := 0) (by decide) ?_
    refine f_il 0 rfl hL rfl ?_
    refine f_s [fi (5), fi (1), fi (0), fi (k), fi (y), fi (x), .ref 55] rfl rfl ?_
    refine f_irem rfl (by decide) (by decide) (by decide) (by decide) ?_
    refine b_eq (x := 1) (by decide) ?_
    refine m_k1 (t180 (a := 0) (b := 1) (by decide) (by decide) x1 y1 k1 hwv h0 h1 h2) hw hm rfl rfl rfl (m_ar so55 hw rfl) rfl (fun hc24 hw24 hm24 => ?_)
    refine f_if rfl (bI_r _) (fun c1 => ?_) (fun c1 => ?_)
    · have c1 : (bI (rR0 w f1 f2 0 1) : Int) = (0 : Int) := c1
      refine f_inc 0 [(7, fi (2)), (5, fi (n)), (6, fi (f)), (0, .ref 55), (1, fi (x)), (2, fi (y)), (3, fi (k)), (4, fi (t))] rfl (by decide) hL rfl rfl (fun L162 hL162 => ?_)
      refine f_goto rfl ?_
      have eC : lC (rl1 w f1 f2) n = lC (rl2 w f1 f2) n := by
        show lC (rl2 w f1 f2) (n + bI (rR0 w f1 f2 0 1)) = _
        rw [bI0 c1]
        show lC (rl2 w f1 f2) (n + 0) = _
        rw [Int.add_zero]
      have eM : lM (rl1 w f1 f2) n f = lM (rl2 w f1 f2) n f := if_neg (by rw [bI0 c1]; decide)
      rw [eC, eM]
      exact hK2 hc24 _ _ _ hw24 hm24 (by omega) (hL162.sel [0, 1, 2, 3, 4, 5, 6, 7] rfl)
    · have c1 : ¬ ((bI (rR0 w f1 f2 0 1) : Int) = (0 : Int)) := c1
      refine f_il 1 rfl hL rfl ?_
      refine f_if rfl (by omega) (fun c2 => ?_) (fun c2 => ?_)
      · have c2 : ¬ (n : Int) = (0 : Int) := c2
        refine f_il 2 rfl hL rfl ?_
        refine f_ist [(6, fi (f)), (7, fi (1)), (5, fi (n)), (0, .ref 55), (1, fi (x)), (2, fi (y)), (3, fi (k)), (4, fi (t))] rfl (by decide) hL rfl (fun L163 hL163 => ?_)
        refine f_inc 2 [(5, fi (n + 1)), (6, fi (f)), (7, fi (1)), (0, .ref 55), (1, fi (x)), (2, fi (y)), (3, fi (k)), (4, fi (t))] rfl (by decide) hL163 rfl rfl (fun L164 hL164 => ?_)
        refine f_inc 2 [(7, fi (2)), (5, fi (n + 1)), (6, fi (f)), (0, .ref 55), (1, fi (x)), (2, fi (y)), (3, fi (k)), (4, fi (t))] rfl (by decide) hL164 rfl rfl (fun L165 hL165 => ?_)
        refine f_goto rfl ?_
        have eC : lC (rl1 w f1 f2) n = lC (rl2 w f1 f2) (n + 1) := by
          show lC (rl2 w f1 f2) (n + bI (rR0 w f1 f2 0 1)) = _
          rw [bI1 c1]
          rfl
        have eM : lM (rl1 w f1 f2) n f = lM (rl2 w f1 f2) (n + 1) (f) := (if_pos (bI1 c1)).trans (by rw [if_neg (show ¬ n = 0 by omega)])
        rw [eC, eM]
        exact hK2 hc24 _ _ _ hw24 hm24 (by omega) (hL165.sel [0, 1, 2, 3, 4, 5, 6, 7] rfl)
      · have c2 : ¬ (¬ (n : Int) = (0 : Int)) := c2
        refine f_bipush (n := 10) rfl (by decide) ?_
        refine f_il 0 rfl hL rfl ?_
        refine f_s [fi (5), fi (1), fi (10)] rfl rfl ?_
        refine f_idiv rfl (by decide) (by decide) (by decide) (by decide) ?_
        refine b_eq (x := 0) (by decide) ?_
        refine f_imul rfl ?_
        refine b_eq (x := 0) (by decide) ?_
        refine f_il 0 rfl hL rfl ?_
        refine f_s [fi (5), fi (1), fi (0)] rfl rfl ?_
        refine f_irem rfl (by decide) (by decide) (by decide) (by decide) ?_
        refine b_eq (x := 1) (by decide) ?_
        refine f_iadd rfl ?_
        refine b_eq (x := 1) (by decide) ?_
        refine f_goto rfl ?_
        refine f_ist [(6, fi (1)), (7, fi (1)), (5, fi (n)), (0, .ref 55), (1, fi (x)), (2, fi (y)), (3, fi (k)), (4, fi (t))] rfl (by decide) hL rfl (fun L166 hL166 => ?_)
        refine f_inc 2 [(5, fi (n + 1)), (6, fi (1)), (7, fi (1)), (0, .ref 55), (1, fi (x)), (2, fi (y)), (3, fi (k)), (4, fi (t))] rfl (by decide) hL166 rfl rfl (fun L167 hL167 => ?_)
        refine f_inc 2 [(7, fi (2)), (5, fi (n + 1)), (6, fi (1)), (0, .ref 55), (1, fi (x)), (2, fi (y)), (3, fi (k)), (4, fi (t))] rfl (by decide) hL167 rfl rfl (fun L168 hL168 => ?_)
        refine f_goto rfl ?_
        have eC : lC (rl1 w f1 f2) n = lC (rl2 w f1 f2) (n + 1) := by
          show lC (rl2 w f1 f2) (n + bI (rR0 w f1 f2 0 1)) = _
          rw [bI1 c1]
          rfl
        have eM : lM (rl1 w f1 f2) n f = lM (rl2 w f1 f2) (n + 1) (1) := (if_pos (bI1 c1)).trans (by rw [if_pos (show n = 0 by omega)])
        rw [eC, eM]
        exact hK2 hc24 _ _ _ hw24 hm24 (by omega) (hL168.sel [0, 1, 2, 3, 4, 5, 6, 7] rfl)
  have hK0 : ∀ (hc : ev_H) (n f : Int) (L : ev_L), y_in yGw hc → gi hc = m → (0 ≤ n ∧ n ≤ 0) → f_L L [(7, fi (0)), (5, fi (n)), (6, fi (f)), (0, .ref 55), (1, fi (x)), (2, fi (y)), (3, fi (k)), (4, fi (t))] → x_W none (1, 0, 8, 4, 11, 5, 122, 0, 0, ev_t181) 55 L [] hc 0 0 (fun r' h' => r' = some (fi (if t = 0 then lC (rl0 w f1 f2) n else lM (rl0 w f1 f2) n f)) ∧ y_in yGw h' ∧ gi h' = m) := fun hc n f L hw hm rn hL => by
    refine f_il 0 rfl hL rfl ?_
    refine f_bipush (n := 25) rfl (by decide) ?_
    refine f_ic rfl (by decide) (by decide) (fun c_9 => absurd (show (25 : Int) ≤ (0 : Int) from c_9) (by decide)) (fun _ => ?_)
    refine f_aln 3 rfl hL rfl ?_
    refine f_iln 4 rfl hL rfl ?_
    refine f_iln 5 rfl hL rfl ?_
    refine f_iln 6 rfl hL rfl ?_
    refine f_il 0 rfl hL rfl ?_
    refine f_s [fi (5), fi (0), fi (k), fi (y), fi (x), .ref 55] rfl rfl ?_
    refine f_idiv rfl (by decide) (by decide) (by decide) (by decide) ?_
    refine b_eq (x := 0) (by decide) ?_
    refine f_il 0 rfl hL rfl ?_
    refine f_s [fi (5), fi (0), fi (0), fi (k), fi (y), fi (x), .ref 55] rfl rfl ?_
    refine f_irem rfl (by decide) (by decide) (by decide) (by decide) ?_
    refine b_eq (x := 0) (by decide) ?_
    refine m_k1 (t180 (a := 0) (b := 0) (by decide) (by decide) x1 y1 k1 hwv h0 h1 h2) hw hm rfl rfl rfl (m_ar so55 hw rfl) rfl (fun hc25 hw25 hm25 => ?_)
    refine f_if rfl (bI_r _) (fun c1 => ?_) (fun c1 => ?_)
    · have c1 : (bI (rR0 w f1 f2 0 0) : Int) = (0 : Int) := c1
      refine f_inc 0 [(7, fi (1)), (5, fi (n)), (6, fi (f)), (0, .ref 55), (1, fi (x)), (2, fi (y)), (3, fi (k)), (4, fi (t))] rfl (by decide) hL rfl rfl (fun L169 hL169 => ?_)
      refine f_goto rfl ?_
      have eC : lC (rl0 w f1 f2) n = lC (rl1 w f1 f2) n := by
        show lC (rl1 w f1 f2) (n + bI (rR0 w f1 f2 0 0)) = _
        rw [bI0 c1]
        show lC (rl1 w f1 f2) (n + 0) = _
        rw [Int.add_zero]
      have eM : lM (rl0 w f1 f2) n f = lM (rl1 w f1 f2) n f := if_neg (by rw [bI0 c1]; decide)
      rw [eC, eM]
      exact hK1 hc25 _ _ _ hw25 hm25 (by omega) (hL169.sel [0, 1, 2, 3, 4, 5, 6, 7] rfl)
    · have c1 : ¬ ((bI (rR0 w f1 f2 0 0) : Int) = (0 : Int)) := c1
      refine f_il 1 rfl hL rfl ?_
      refine f_if rfl (by omega) (fun c2 => ?_) (fun c2 => ?_)
      · have c2 : ¬ (n : Int) = (0 : Int) := c2
        refine f_il 2 rfl hL rfl ?_
        refine f_ist [(6, fi (f)), (7, fi (0)), (5, fi (n)), (0, .ref 55), (1, fi (x)), (2, fi (y)), (3, fi (k)), (4, fi (t))] rfl (by decide) hL rfl (fun L170 hL170 => ?_)
        refine f_inc 2 [(5, fi (n + 1)), (6, fi (f)), (7, fi (0)), (0, .ref 55), (1, fi (x)), (2, fi (y)), (3, fi (k)), (4, fi (t))] rfl (by decide) hL170 rfl rfl (fun L171 hL171 => ?_)
        refine f_inc 2 [(7, fi (1)), (5, fi (n + 1)), (6, fi (f)), (0, .ref 55), (1, fi (x)), (2, fi (y)), (3, fi (k)), (4, fi (t))] rfl (by decide) hL171 rfl rfl (fun L172 hL172 => ?_)
        refine f_goto rfl ?_
        have eC : lC (rl0 w f1 f2) n = lC (rl1 w f1 f2) (n + 1) := by
          show lC (rl1 w f1 f2) (n + bI (rR0 w f1 f2 0 0)) = _
          rw [bI1 c1]
          rfl
        have eM : lM (rl0 w f1 f2) n f = lM (rl1 w f1 f2) (n + 1) (f) := (if_pos (bI1 c1)).trans (by rw [if_neg (show ¬ n = 0 by omega)])
        rw [eC, eM]
        exact hK1 hc25 _ _ _ hw25 hm25 (by omega) (hL172.sel [0, 1, 2, 3, 4, 5, 6, 7] rfl)
      · have c2 : ¬ (¬ (n : Int) = (0 : Int)) := c2
        refine f_bipush (n := 10) rfl (by decide) ?_
        refine f_il 0 rfl hL rfl ?_
        refine f_s [fi (5), fi (0), fi (10)] rfl rfl ?_
        refine f_idiv rfl (by decide) (by decide) (by decide) (by decide) ?_
        refine b_eq (x := 0) (by decide) ?_
        refine f_imul rfl ?_
        refine b_eq (x := 0) (by decide) ?_
        refine f_il 0 rfl hL rfl ?_
        refine f_s [fi (5), fi (0), fi (0)] rfl rfl ?_
        refine f_irem rfl (by decide) (by decide) (by decide) (by decide) ?_
        refine b_eq (x := 0) (by decide) ?_
        refine f_iadd rfl ?_
        refine b_eq (x := 0) (by decide) ?_
        refine f_goto rfl ?_
        refine f_ist [(6, fi (0)), (7, fi (0)), (5, fi (n)), (0, .ref 55), (1, fi (x)), (2, fi (y)), (3, fi (k)), (4, fi (t))] rfl (by decide) hL rfl (fun L173 hL173 => ?_)
        refine f_inc 2 [(5, fi (n + 1)), (6, fi (0)), (7, fi (0)), (0, .ref 55), (1, fi (x)), (2, fi (y)), (3, fi (k)), (4, fi (t))] rfl (by decide) hL173 rfl rfl (fun L174 hL174 => ?_)
        refine f_inc 2 [(7, fi (1)), (5, fi (n + 1)), (6, fi (0)), (0, .ref 55), (1, fi (x)), (2, fi (y)), (3, fi (k)), (4, fi (t))] rfl (by decide) hL174 rfl rfl (fun L175 hL175 => ?_)
        refine f_goto rfl ?_
        have eC : lC (rl0 w f1 f2) n = lC (rl1 w f1 f2) (n + 1) := by
          show lC (rl1 w f1 f2) (n + bI (rR0 w f1 f2 0 0)) = _
          rw [bI1 c1]
          rfl
        have eM : lM (rl0 w f1 f2) n f = lM (rl1 w f1 f2) (n + 1) (0) := (if_pos (bI1 c1)).trans (by rw [if_pos (show n = 0 by omega)])
        rw [eC, eM]
        exact hK1 hc25 _ _ _ hw25 hm25 (by omega) (hL175.sel [0, 1, 2, 3, 4, 5, 6, 7] rfl)
  refine f_aln 0 rfl hL rfl ?_
  refine f_iln 1 rfl hL rfl ?_
  refine m_k1 (t61 hp.1 hp.2 rx) hw hm rfl rfl rfl (m_ar so55 hw rfl) rfl (fun hc26 hw26 hm26 => ?_)
  refine f_if rfl (bI_r _) (fun c_9 => absurd (show (bI (decide (0 ≤ x ∧ x < m 55 1)) : Int) = (0 : Int) from c_9) (by rw [decide_eq_true hx]; decide)) (fun _ => ?_)
  refine f_aln 0 rfl hL rfl ?_
  refine f_iln 2 rfl hL rfl ?_
  refine m_k1 (t61 hp.1 hp.2 ry) hw26 hm26 rfl rfl rfl (m_ar so55 hw26 rfl) rfl (fun hc27 hw27 hm27 => ?_)
  refine f_if rfl (bI_r _) (fun c_9 => absurd (show (bI (decide (0 ≤ y ∧ y < m 55 1)) : Int) = (0 : Int) from c_9) (by rw [decide_eq_true hy]; decide)) (fun _ => ?_)
  refine f_aln 0 rfl hL rfl ?_
  refine f_iln 3 rfl hL rfl ?_
  refine m_k1 (t46 hn.1 hn.2 rk) hw27 hm27 rfl rfl rfl (m_ar so55 hw27 rfl) rfl (fun hc28 hw28 hm28 => ?_)
  refine f_if rfl (bI_r _) (fun _ => ?_) (fun c_9 => absurd (show ¬ (bI (decide (0 ≤ k ∧ k < m 55 0)) : Int) = (0 : Int) from (by rw [decide_eq_true hk]; decide)) c_9)
  refine f_iln 1 rfl hL rfl ?_
  refine f_iln 2 rfl hL rfl ?_
  refine f_ic rfl rx ry (fun c_9 => absurd (show (x : Int) = (y : Int) from c_9) (fun z => hu.1 z)) (fun _ => ?_)
  refine f_il 4 rfl hL rfl ?_
  refine f_i2l rfl rt ?_
  refine f_s [fl (0), fl (t)] rfl rfl ?_
  refine f_s [fl (1), fl (0), fl (t)] rfl rfl ?_
  refine m_k1 (t_in t 0 1 (by omega) (by decide) (by decide)) hw28 hm28 rfl rfl rfl rfl rfl (fun hc29 hw29 hm29 => ?_)
  refine f_if rfl (bI_r _) (fun _ => ?_) (fun c_9 => absurd (show ¬ (bI (decide (0 ≤ t ∧ t ≤ 1)) : Int) = (0 : Int) from (by rw [decide_eq_true hu.2]; decide)) c_9)
  refine f_s [fi (0)] rfl rfl ?_
  refine f_ist [(5, fi (0)), (0, .ref 55), (1, fi (x)), (2, fi (y)), (3, fi (k)), (4, fi (t))] rfl (by decide) hL rfl (fun L176 hL176 => ?_)
  refine f_bipush (n := -9) rfl (by decide) ?_
  refine f_ist [(6, fi (-9)), (5, fi (0)), (0, .ref 55), (1, fi (x)), (2, fi (y)), (3, fi (k)), (4, fi (t))] rfl (by decide) hL176 rfl (fun L177 hL177 => ?_)
  refine f_s [fi (0)] rfl rfl ?_
  refine f_ist [(7, fi (0)), (6, fi (-9)), (5, fi (0)), (0, .ref 55), (1, fi (x)), (2, fi (y)), (3, fi (k)), (4, fi (t))] rfl (by decide) hL177 rfl (fun L178 hL178 => ?_)
  rw [← lM_0]
  exact hK0 hc29 0 (-9) _ hw29 hm29 (by decide) (hL178.sel [0, 2, 1, 3, 4, 5, 6, 7] rfl))
theorem may_eq {m : Nat → Nat → Int} (hP : PR m) (hR : SR0 m) {x k : Int} (hx : 0 ≤ x ∧ x < m 3 6) (hk : 0 ≤ k ∧ k < m 3 5) : decide (¬ iA (iR (m 61 16) (x)) (1) = 1 ∧ iA (iR (m 60 (x).toNat) (k)) (1) = 1) = decide ((0 ≤ k ∧ k < m 3 5) ∧ ¬ ((0 ≤ x ∧ x < m 3 6) ∧ iA (iR (m 9 5) (x)) (1) = 1) ∧ iA (iR (ft m x) (k)) (1) = 1) := by
  rw [ft_eq hP hx, hR.g.2.1]
  exact decide_eq_decide.mpr ⟨fun z => ⟨hk, fun y => z.1 y.2, z.2⟩, fun z => ⟨fun y => z.2.1 ⟨hx, y⟩, z.2.2⟩⟩
theorem f_a5 {x y k t : Int} {q : Nat} : y_args [(2, Int.ofNat q, Int.ofNat q, false), (0, Int.negSucc 2147483647, Int.ofNat 2147483647, false), (0, Int.negSucc 2147483647, Int.ofNat 2147483647, false), (0, Int.negSucc 2147483647, Int.ofNat 2147483647, false), (0, Int.negSucc 2147483647, Int.ofNat 2147483647, false)] [.ref q, fi x, fi y, fi k, fi t] := f_args_c f_rAr (f_args_c f_rAi (f_args_c f_rAi (f_args_c f_rAi (f_args_c f_rAi f_args_n))))
theorem SI_rests {hc : ev_H} (hin : y_in yG hc) (hS : SI (gi hc)) (hW : PW (gi hc)) {x y k t : Int} (rx : -2147483648 ≤ x ∧ x ≤ 2147483647) (ry : -2147483648 ≤ y ∧ y ≤ 2147483647) (rk : -2147483648 ≤ k ∧ k ≤ 2147483647) (rt : -2147483648 ≤ t ∧ t ≤ 2147483647) : ∃ rr hc1 fs1 hc2, (-2147483648 ≤ rr ∧ rr ≤ 2147483647) ∧ f_M 177 [.ref 0, fi x, fi y, fi k, fi t] hc (some (fi rr)) hc1 ∧ hc1[55]? = some (.inr (.inr (10, fs1))) ∧ f_M 181 [.ref 55, fi x, fi y, fi k, fi t] hc1 (some (fi rr)) hc2 ∧ y_in yG hc2 ∧ SI (gi hc2) ∧ y_un yct177_0.2.2 hc hc1 ∧ y_un yct181_0.2.2 hc1 hc2 := by
  obtain ⟨hP, hR, hA, hK⟩ := id hS
  have hn := hP.2.1.1
  have hp := hP.2.1.2
  have hJ := hR.j hP
  by_cases hu : (0 ≤ x ∧ x < gi hc 3 6) ∧ (0 ≤ y ∧ y < gi hc 3 6) ∧ (0 ≤ k ∧ k < gi hc 3 5)
  · obtain ⟨hx, hy, hk⟩ := hu
    have hxM : 0 ≤ x ∧ x < gi hc 55 1 := by rw [← hP.1.2]; exact hx
    have hyM : 0 ≤ y ∧ y < gi hc 55 1 := by rw [← hP.1.2]; exact hy
    have hkM : 0 ≤ k ∧ k < gi hc 55 0 := by rw [← hP.1.1]; exact hk
    have e1 : wo (gi hc) k = gi hc 57 k.toNat := (if_pos hk).trans (hP.2.2.1 k.toNat (by omega) (by omega)).2
    have e2 : wo (gi hc) k = gi hc 5 k.toNat := if_pos hk
    have hwv : 0 ≤ wo (gi hc) k ∧ wo (gi hc) k ≤ 9 := by rw [e2]; have := (hW.1 k.toNat (by omega) (by omega)).2; omega
    by_cases ho : ¬ x = y ∧ 0 ≤ t ∧ t ≤ 1
    · have E : ∀ (w : Int) (f1 f2 : Bool) (q i : Nat), q ≠ 53 → prB (gi hc) w f1 f2 q i = gi hc q i := fun w f1 f2 q i hq => by unfold prB; rw [up_nc hq, up_nc hq, up_nc hq]
      have mx := may_eq hP hR hx hk
      have my := may_eq hP hR hy hk
      refine SI_call (RC := ev_r177) (RM := ev_r181) rfl rfl yc177_0 yc181_0 f_a5 f_a5 hin (t177_ok hn hp rx ry rk rt hx hy hk ho hwv) (t181_ok (by rw [E _ _ _ 55 0 (by decide)]; exact hJ.1) (by rw [E _ _ _ 55 1 (by decide)]; exact hJ.2.1) rx ry rk rt (by rw [E _ _ _ 55 1 (by decide)]; exact hxM) (by rw [E _ _ _ 55 1 (by decide)]; exact hyM) (by rw [E _ _ _ 55 0 (by decide)]; exact hkM) ho hwv (by rw [E _ _ _ 57 _ (by decide)]; exact e1.symm) (by rw [E _ _ _ 61 16 (by decide), E _ _ _ 60 _ (by decide)]; exact mx) (by rw [E _ _ _ 61 16 (by decide), E _ _ _ 60 _ (by decide)]; exact my)) rfl ?_
      exact SI_keep (fun e he i h1 h2 => E _ _ _ e.1 i (by
        intro h9
        have : (SI_FP.all (fun e => !(Nat.beq e.1 53))) = true := by decide
        have := List.all_eq_true.mp this e he
        rw [h9] at this
        exact absurd this (by decide))) hS
    · exact SI_call (RC := ev_r177) (RM := ev_r181) rfl rfl yc177_0 yc181_0 f_a5 f_a5 hin (t177_out hn hp rx ry rk rt hx hy hk ho) (t181_out hJ.1 hJ.2.1 rx ry rk rt hxM hyM hkM ho) rfl hS
  · exact SI_call (RC := ev_r177) (RM := ev_r181) rfl rfl yc177_0 yc181_0 f_a5 f_a5 hin (t177_un hn hp rx ry rk rt hu) (t181_un hJ.1 hJ.2.1 rx ry rk rt (by rw [← hP.1.1, ← hP.1.2]; exact hu)) rfl hS
