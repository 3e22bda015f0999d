/-! fire of the class -/
def vW (m : Nat → Nat → Int) : Nat → Int := fun k => wo m (k : Int)
def FW (m : Nat → Nat → Int) : Nat → B4 := fun p => b4 (fsC m (p : Int))
def ind (s : Int) : Nat → Int := fun k => bI (bk (b4 s) k)
def Bt (m : Nat → Nat → Int) (p : Nat) (s : Int) : Int := hg (vW m) (LsF (FW m) p (5 - p)) (ind s)
theorem hg_nn (v : Nat → Int) : ∀ (l : List B4) (R : Nat → Int), 0 ≤ hg v l R
  | [], _ => Int.le_refl _
  | w :: ws, R => Int.le_trans (hg_nn v ws R) (hg_0 v w ws R)
theorem hg_9 {v : Nat → Int} (hv : ∀ k, v k ≤ 9) : ∀ (l : List B4) (R : Nat → Int), hg v l R ≤ 9 * (l.length : Int)
  | [], _ => by show (0 : Int) ≤ 9 * ((0 : Nat) : Int); decide
  | w :: ws, R => by
    have i := hg_9 hv ws
    rcases hg_c v w ws R with h | ⟨k, -, -, -, h⟩
    · rw [← h]
      have := i R
      show _ ≤ 9 * ((ws.length + 1 : Nat) : Int)
      omega
    · rw [← h]
      have := i (dcr R k)
      have := hv k
      show _ ≤ 9 * ((ws.length + 1 : Nat) : Int)
      omega
theorem Bt_r {m : Nat → Nat → Int} (hv : ∀ k : Nat, 0 ≤ wo m (k : Int) ∧ wo m (k : Int) ≤ 9) (p : Nat) (s : Int) : 0 ≤ Bt m p s ∧ Bt m p s ≤ 45 := by
  have h1 := hg_nn (vW m) (LsF (FW m) p (5 - p)) (ind s)
  have h2 := hg_9 (v := vW m) (fun k => (hv k).2) (LsF (FW m) p (5 - p)) (ind s)
  rw [LsF_len] at h2
  unfold Bt
  omega
theorem Bt_5 (m : Nat → Nat → Int) (s : Int) : Bt m 5 s = 0 := rfl
theorem bit_k {s F : Int} (hs : 0 ≤ s ∧ s ≤ 15) (hF : 0 ≤ F ∧ F ≤ 15) : (decide (¬ iA (iA (s) (F)) (iS (1) (0)) = 0) = (tB s 0 && tB F 0)) ∧ (decide (¬ iA (iA (s) (F)) (iS (1) (1)) = 0) = (tB s 1 && tB F 1)) ∧ (decide (¬ iA (iA (s) (F)) (iS (1) (2)) = 0) = (tB s 2 && tB F 2)) ∧ (decide (¬ iA (iA (s) (F)) (iS (1) (3)) = 0) = (tB s 3 && tB F 3)) := by
  have key : ∀ s F : Fin 16, (decide (¬ iA (iA (((s.val : Nat) : Int)) (((F.val : Nat) : Int))) (iS (1) (0)) = 0) = (tB ((s.val : Nat) : Int) 0 && tB ((F.val : Nat) : Int) 0)) ∧ (decide (¬ iA (iA (((s.val : Nat) : Int)) (((F.val : Nat) : Int))) (iS (1) (1)) = 0) = (tB ((s.val : Nat) : Int) 1 && tB ((F.val : Nat) : Int) 1)) ∧ (decide (¬ iA (iA (((s.val : Nat) : Int)) (((F.val : Nat) : Int))) (iS (1) (2)) = 0) = (tB ((s.val : Nat) : Int) 2 && tB ((F.val : Nat) : Int) 2)) ∧ (decide (¬ iA (iA (((s.val : Nat) : Int)) (((F.val : Nat) : Int))) (iS (1) (3)) = 0) = (tB ((s.val : Nat) : Int) 3 && tB ((F.val : Nat) : Int) 3)) := by decide +kernel
  obtain ⟨a, rfl⟩ := toF hs
  obtain ⟨b, rfl⟩ := toF hF
  exact key a b
theorem bk_4 (w : B4) (j : Nat) : bk w (j + 4) = false := rfl
theorem ind_4 (s : Int) (j : Nat) : ind s (j + 4) = 0 := by
  unfold ind
  rw [bk_4]
  rfl
theorem ind_d {s : Int} (hs : 0 ≤ s ∧ s ≤ 15) {k : Nat} (h : bk (b4 s) k = true) : ind (iA (s) (iX (iS (1) ((k : Int))) (-1))) = dcr (ind s) k := by
  have k4 := bk_lt h
  have key : ∀ s : Fin 16, ∀ k j : Fin 4, bk (b4 ((s.val : Nat) : Int)) k.val = true → ind (iA (((s.val : Nat) : Int)) (iX (iS (1) (((k.val : Nat) : Int))) (-1))) j.val = (if j.val = k.val then ind ((s.val : Nat) : Int) j.val - 1 else ind ((s.val : Nat) : Int) j.val) := by decide +kernel
  obtain ⟨a, rfl⟩ := toF hs
  funext j
  show _ = if j = k then ind ((a.val : Nat) : Int) j - 1 else ind ((a.val : Nat) : Int) j
  by_cases hj : j < 4
  · exact key a ⟨k, k4⟩ ⟨j, hj⟩ h
  · rw [if_neg (by omega)]
    obtain ⟨i, rfl⟩ : ∃ i, j = i + 4 := ⟨j - 4, by omega⟩
    rw [ind_4, ind_4]
theorem ind_p {s : Int} {k : Nat} : 0 < ind s k ↔ bk (b4 s) k = true := by
  unfold ind
  cases bk (b4 s) k <;> decide
theorem s_15 {s y : Int} (hs : 0 ≤ s ∧ s ≤ 15) : 0 ≤ iA (s) (y) ∧ iA (s) (y) ≤ 15 := by rw [iA_comm]; exact iA_15 hs
/-- a figure's worth -/
def wF (m : Nat → Nat → Int) (p : Nat) (s : Int) (k : Nat) : Int := if bk (b4 s) k = true ∧ bk (FW m p) k = true then wo m (k : Int) + Bt m (p + 1) (iA (s) (iX (iS (1) ((k : Int))) (-1))) else -9
theorem wF_r {m : Nat → Nat → Int} (hv : ∀ k : Nat, 0 ≤ wo m (k : Int) ∧ wo m (k : Int) ≤ 9) (p : Nat) (s : Int) (k : Nat) : -9 ≤ wF m p s k ∧ wF m p s k ≤ 54 := by
  unfold wF
  split
  · have := hv k
    have := Bt_r hv (p + 1) (iA (s) (iX (iS (1) ((k : Int))) (-1)))
    omega
  · decide
theorem Bt_s (m : Nat → Nat → Int) {p : Nat} (hp : p < 5) (s : Int) : Bt m p s = hg (vW m) (FW m p :: LsF (FW m) (p + 1) (5 - (p + 1))) (ind s) := by
  unfold Bt
  rw [show 5 - p = (5 - (p + 1)) + 1 by omega]
  rfl
theorem wF_k {m : Nat → Nat → Int} (p : Nat) {s : Int} (hs : 0 ≤ s ∧ s ≤ 15) {k : Nat} : (bk (FW m p) k = true ∧ 0 < ind s k ∧ wF m p s k = vW m k + hg (vW m) (LsF (FW m) (p + 1) (5 - (p + 1))) (dcr (ind s) k)) ∨ (¬ (bk (FW m p) k = true ∧ 0 < ind s k) ∧ wF m p s k = -9) := by
  by_cases c : bk (b4 s) k = true ∧ bk (FW m p) k = true
  · refine Or.inl ⟨c.2, ind_p.mpr c.1, ?_⟩
    unfold wF
    rw [if_pos c]
    unfold Bt
    rw [ind_d hs c.1]
    rfl
  · exact Or.inr ⟨fun z => c ⟨ind_p.mp z.2, z.1⟩, if_neg c⟩
theorem best_m {m : Nat → Nat → Int} {p : Nat} (hp : p < 5) {s : Int} (hs : 0 ≤ s ∧ s ≤ 15) : max (max (max (max (max 0 (Bt m (p + 1) s)) (wF m p s 0)) (wF m p s 1)) (wF m p s 2)) (wF m p s 3) = Bt m p s := by
  rw [Bt_s m hp, hg_s]
  have h0 := hg_nn (vW m) (LsF (FW m) (p + 1) (5 - (p + 1))) (ind s)
  have e0 : Bt m (p + 1) s = hg (vW m) (LsF (FW m) (p + 1) (5 - (p + 1))) (ind s) := rfl
  have c : ∀ k, (wF m p s k = hk (vW m) (FW m p) (hg (vW m) (LsF (FW m) (p + 1) (5 - (p + 1)))) (ind s) k) ∨ (wF m p s k = -9 ∧ hk (vW m) (FW m p) (hg (vW m) (LsF (FW m) (p + 1) (5 - (p + 1)))) (ind s) k = hg (vW m) (LsF (FW m) (p + 1) (5 - (p + 1))) (ind s)) := fun k => by
    rcases wF_k (m := m) p hs (k := k) with ⟨a1, a2, a3⟩ | ⟨a1, a2⟩
    · exact Or.inl (a3.trans (if_pos ⟨a1, a2⟩).symm)
    · exact Or.inr ⟨a2, if_neg a1⟩
  have c0 := c 0
  have c1 := c 1
  have c2 := c 2
  have c3 := c 3
  omega
theorem wo_q {m m' : Nat → Nat → Int} (hn' : m' 3 5 = m 3 5) (h5 : ∀ k, m' 5 k = m 5 k) (x : Int) : wo m' x = wo m x := by
  unfold wo
  rw [hn', h5]
theorem t127_00 {m m' : Nat → Nat → Int} (hn : 0 ≤ m 3 5 ∧ m 3 5 ≤ 4) (hv : ∀ k : Nat, 0 ≤ wo m (k : Int) ∧ wo m (k : Int) ≤ 9) (hn' : m' 3 5 = m 3 5) (h5 : ∀ k, m' 5 k = m 5 k) (hB : ∀ j : Nat, j < 16 → m' 47 j = Bt m 1 (j : Int)) (hF : m' 52 0 = fsC m 0) {s : Int} (hs : 0 ≤ s ∧ s ≤ 15) : h_M 127 [.ref 44, fi (0), fi (s), fi (0)] m' (some (fi (Bt m 1 s))) m' := h_M_of (R := ev_r127) rfl (fun hc hw hm => by
  have hL : f_L (lv_args 0 [.ref 44, fi (0), fi (s), fi (0)]) [(0, .ref 44), (1, fi (0)), (2, fi (s)), (3, fi (0))] := f_L_of rfl
  generalize lv_args 0 [.ref 44, fi (0), fi (s), fi (0)] = L at hL
  show x_W none (1, 0, 5, 3, 6, 2, 42, 0, 0, ev_t127) 0 L [] hc 0 0 _
  have hR := gi_R hm
  refine f_iln 1 rfl hL rfl ?_
  refine f_if rfl (by decide) (fun c_9 => absurd (show (0 : Int) < (0 : Int) from c_9) (by decide)) (fun _ => ?_)
  refine f_iln 1 rfl hL rfl ?_
  refine f_s [fi (5), fi (0)] rfl rfl ?_
  refine f_ic rfl (by decide) (by decide) (fun c_9 => absurd (show (5 : Int) ≤ (0 : Int) from c_9) (by decide)) (fun _ => ?_)
  refine f_iln 2 rfl hL rfl ?_
  refine f_if rfl (by omega) (fun c_9 => absurd (show (s : Int) < (0 : Int) from c_9) (by omega)) (fun _ => ?_)
  refine f_iln 2 rfl hL rfl ?_
  refine f_bipush (n := 16) rfl (by decide) ?_
  refine f_ic rfl (by omega) (by decide) (fun _ => ?_) (fun c_9 => absurd (show (s : Int) < (16 : Int) from (by omega)) c_9)
  have jb := hB (s).toNat (by omega)
  rw [show (((s).toNat : Nat) : Int) = s by omega] at jb
  refine f_iln 3 rfl hL rfl ?_
  refine f_if rfl (by decide) (fun c_9 => absurd (show ¬ (0 : Int) = (0 : Int) from c_9) (by decide)) (fun _ => ?_)
  refine f_aln 0 rfl hL rfl ?_
  refine m_gfr so44 rfl hw rfl (by decide) ?_
  refine f_iln 1 rfl hL rfl ?_
  refine f_s [fi (1), fi (0), .ref 45] rfl rfl ?_
  refine f_iadd rfl ?_
  refine b_eq (x := 1) (by decide) ?_
  refine m_aa sr45 rfl hw (by omega) (by omega) (by decide) ?_
  refine f_iln 2 rfl hL rfl ?_
  refine m_ia sa47 (Bt m 1 s) rfl hw hm (by omega) (by omega) (by decide) jb ?_
  exact f_ret1 rfl ⟨rfl, hw, hm⟩)
theorem t127_01 {m m' : Nat → Nat → Int} (hn : 0 ≤ m 3 5 ∧ m 3 5 ≤ 4) (hv : ∀ k : Nat, 0 ≤ wo m (k : Int) ∧ wo m (k : Int) ≤ 9) (hn' : m' 3 5 = m 3 5) (h5 : ∀ k, m' 5 k = m 5 k) (hB : ∀ j : Nat, j < 16 → m' 47 j = Bt m 1 (j : Int)) (hF : m' 52 0 = fsC m 0) {s : Int} (hs : 0 ≤ s ∧ s ≤ 15) : h_M 127 [.ref 44, fi (0), fi (s), fi (1)] m' (some (fi (wF m 0 s 0))) m' := h_M_of (R := ev_r127) rfl (fun hc hw hm => by
  have hL : f_L (lv_args 0 [.ref 44, fi (0), fi (s), fi (1)]) [(0, .ref 44), (1, fi (0)), (2, fi (s)), (3, fi (1))] := f_L_of rfl
  generalize lv_args 0 [.ref 44, fi (0), fi (s), fi (1)] = L at hL
  show x_W none (1, 0, 5, 3, 6, 2, 42, 0, 0, ev_t127) 0 L [] hc 0 0 _
  have hR := gi_R hm
  refine f_iln 1 rfl hL rfl ?_
  refine f_if rfl (by decide) (fun c_9 => absurd (show (0 : Int) < (0 : Int) from c_9) (by decide)) (fun _ => ?_)
  refine f_iln 1 rfl hL rfl ?_
  refine f_s [fi (5), fi (0)] rfl rfl ?_
  refine f_ic rfl (by decide) (by decide) (fun c_9 => absurd (show (5 : Int) ≤ (0 : Int) from c_9) (by decide)) (fun _ => ?_)
  refine f_iln 2 rfl hL rfl ?_
  refine f_if rfl (by omega) (fun c_9 => absurd (show (s : Int) < (0 : Int) from c_9) (by omega)) (fun _ => ?_)
  refine f_iln 2 rfl hL rfl ?_
  refine f_bipush (n := 16) rfl (by decide) ?_
  refine f_ic rfl (by omega) (by decide) (fun _ => ?_) (fun c_9 => absurd (show (s : Int) < (16 : Int) from (by omega)) c_9)
  have F15 := fsC_15 hn 0
  have bk9 := (bit_k hs F15).1
  have s2 := s_15 (y := iX (iS (1) (0)) (-1)) hs
  have jb := hB (iA (s) (iX (iS (1) (0)) (-1))).toNat (by omega)
  rw [show (((iA (s) (iX (iS (1) (0)) (-1))).toNat : Nat) : Int) = iA (s) (iX (iS (1) (0)) (-1)) by omega] at jb
  refine f_iln 3 rfl hL rfl ?_
  refine f_if rfl (by decide) (fun _ => ?_) (fun c_9 => absurd (show ¬ (1 : Int) = (0 : Int) from (by decide)) c_9)
  refine f_s [fi (1)] rfl rfl ?_
  refine f_iln 3 rfl hL rfl ?_
  refine f_s [fi (1), fi (1), fi (1)] rfl rfl ?_
  refine f_isub rfl ?_
  refine b_eq (x := 0) (by decide) ?_
  refine b_ishl rfl ?_
  refine f_ist [(4, fi (iS (1) (0))), (0, .ref 44), (1, fi (0)), (2, fi (s)), (3, fi (1))] rfl (by decide) hL rfl (fun L1 hL1 => ?_)
  refine f_iln 3 rfl hL1 rfl ?_
  refine f_aln 1 rfl hL1 rfl ?_
  refine m_gfr so44 rfl hw rfl (by decide) ?_
  refine f_iln 2 rfl hL1 rfl ?_
  refine m_ia sa52 (fsC m 0) rfl hw hm (by omega) (by omega) (by decide) hF ?_
  refine b_iand rfl ?_
  refine f_il 0 rfl hL1 rfl ?_
  refine b_iand rfl ?_
  refine f_if rfl iA_r (fun c1 => ?_) (fun c1 => ?_)
  · have c1 : ¬ (iA (iA (s) (fsC m 0)) (iS (1) (0)) : Int) = (0 : Int) := c1
    refine f_aln 1 rfl hL1 rfl ?_
    refine m_gfr so44 rfl hw rfl (by decide) ?_
    refine f_iln 4 rfl hL1 rfl ?_
    refine f_s [fi (1), fi (1), .ref 3] rfl rfl ?_
    refine f_isub rfl ?_
    refine b_eq (x := 0) (by decide) ?_
    have t9 := t42 (m := m') (x := 0) (by rw [hn']; exact hn) (by decide)
    rw [wo_q hn' h5] at t9
    refine m_k1 t9 hw hm rfl rfl rfl (m_ar so3 hw rfl) rfl (fun hc1 hw1 hm1 => ?_)
    refine f_aln 1 rfl hL1 rfl ?_
    refine m_gfr so44 rfl hw1 rfl (by decide) ?_
    refine f_iln 2 rfl hL1 rfl ?_
    refine f_s [fi (1), fi (0), .ref 45, fi (wo m 0)] rfl rfl ?_
    refine f_iadd rfl ?_
    refine b_eq (x := 1) (by decide) ?_
    refine m_aa sr45 rfl hw1 (by omega) (by omega) (by decide) ?_
    refine f_iln 3 rfl hL1 rfl ?_
    refine f_il 0 rfl hL1 rfl ?_
    refine f_s [fi (-1), fi (iS (1) (0)), fi (s), .ref 47, fi (wo m 0)] rfl rfl ?_
    refine b_ixor rfl ?_
    refine b_iand rfl ?_
    refine m_ia sa47 (Bt m 1 (iA (s) (iX (iS (1) (0)) (-1)))) rfl hw1 hm1 (by omega) (by omega) (by decide) jb ?_
    refine f_iadd rfl ?_
    exact f_ret1 rfl ⟨by rw [show wF m 0 s 0 = wo m 0 + Bt m 1 (iA (s) (iX (iS (1) (0)) (-1))) from if_pos (by rw [decide_eq_true c1] at bk9; have := bk9.symm; rw [Bool.and_eq_true] at this; exact this)], hw1, hm1⟩
  · have c1 : ¬ (¬ (iA (iA (s) (fsC m 0)) (iS (1) (0)) : Int) = (0 : Int)) := c1
    refine f_bipush (n := -9) rfl (by decide) ?_
    exact f_ret1 rfl ⟨by rw [show wF m 0 s 0 = -9 from if_neg (fun z => by rw [decide_eq_false c1] at bk9; have y : (tB s 0 && tB (fsC m 0) 0) = true := (by rw [Bool.and_eq_true]; exact z); rw [← bk9] at y; cases y)], hw, hm⟩)
theorem t127_02 {m m' : Nat → Nat → Int} (hn : 0 ≤ m 3 5 ∧ m 3 5 ≤ 4) (hv : ∀ k : Nat, 0 ≤ wo m (k : Int) ∧ wo m (k : Int) ≤ 9) (hn' : m' 3 5 = m 3 5) (h5 : ∀ k, m' 5 k = m 5 k) (hB : ∀ j : Nat, j < 16 → m' 47 j = Bt m 1 (j : Int)) (hF : m' 52 0 = fsC m 0) {s : Int} (hs : 0 ≤ s ∧ s ≤ 15) : h_M 127 [.ref 44, fi (0), fi (s), fi (2)] m' (some (fi (wF m 0 s 1))) m' := h_M_of (R := ev_r127) rfl (fun hc hw hm => by
  have hL : f_L (lv_args 0 [.ref 44, fi (0), fi (s), fi (2)]) [(0, .ref 44), (1, fi (0)), (2, fi (s)), (3, fi (2))] := f_L_of rfl
  generalize lv_args 0 [.ref 44, fi (0), fi (s), fi (2)] = L at hL
  show x_W none (1, 0, 5, 3, 6, 2, 42, 0, 0, ev_t127) 0 L [] hc 0 0 _
  have hR := gi_R hm
  refine f_iln 1 rfl hL rfl ?_
  refine f_if rfl (by decide) (fun c_9 => absurd (show (0 : Int) < (0 : Int) from c_9) (by decide)) (fun _ => ?_)
  refine f_iln 1 rfl hL rfl ?_
  refine f_s [fi (5), fi (0)] rfl rfl ?_
  refine f_ic rfl (by decide) (by decide) (fun c_9 => absurd (show (5 : Int) ≤ (0 : Int) from c_9) (by decide)) (fun _ => ?_)
  refine f_iln 2 rfl hL rfl ?_
  refine f_if rfl (by omega) (fun c_9 => absurd (show (s : Int) < (0 : Int) from c_9) (by omega)) (fun _ => ?_)
  refine f_iln 2 rfl hL rfl ?_
  refine f_bipush (n := 16) rfl (by decide) ?_
  refine f_ic rfl (by omega) (by decide) (fun _ => ?_) (fun c_9 => absurd (show (s : Int) < (16 : Int) from (by omega)) c_9)
  have F15 := fsC_15 hn 0
  have bk9 := (bit_k hs F15).2.1
  have s2 := s_15 (y := iX (iS (1) (1)) (-1)) hs
  have jb := hB (iA (s) (iX (iS (1) (1)) (-1))).toNat (by omega)
  rw [show (((iA (s) (iX (iS (1) (1)) (-1))).toNat : Nat) : Int) = iA (s) (iX (iS (1) (1)) (-1)) by omega] at jb
  refine f_iln 3 rfl hL rfl ?_
  refine f_if rfl (by decide) (fun _ => ?_) (fun c_9 => absurd (show ¬ (2 : Int) = (0 : Int) from (by decide)) c_9)
  refine f_s [fi (1)] rfl rfl ?_
  refine f_iln 3 rfl hL rfl ?_
  refine f_s [fi (1), fi (2), fi (1)] rfl rfl ?_
  refine f_isub rfl ?_
  refine b_eq (x := 1) (by decide) ?_
  refine b_ishl rfl ?_
  refine f_ist [(4, fi (iS (1) (1))), (0, .ref 44), (1, fi (0)), (2, fi (s)), (3, fi (2))] rfl (by decide) hL rfl (fun L1 hL1 => ?_)
  refine f_iln 3 rfl hL1 rfl ?_
  refine f_aln 1 rfl hL1 rfl ?_
  refine m_gfr so44 rfl hw rfl (by decide) ?_
  refine f_iln 2 rfl hL1 rfl ?_
  refine m_ia sa52 (fsC m 0) rfl hw hm (by omega) (by omega) (by decide) hF ?_
  refine b_iand rfl ?_
  refine f_il 0 rfl hL1 rfl ?_
  refine b_iand rfl ?_
  refine f_if rfl iA_r (fun c1 => ?_) (fun c1 => ?_)
  · have c1 : ¬ (iA (iA (s) (fsC m 0)) (iS (1) (1)) : Int) = (0 : Int) := c1
    refine f_aln 1 rfl hL1 rfl ?_
    refine m_gfr so44 rfl hw rfl (by decide) ?_
    refine f_iln 4 rfl hL1 rfl ?_
    refine f_s [fi (1), fi (2), .ref 3] rfl rfl ?_
    refine f_isub rfl ?_
    refine b_eq (x := 1) (by decide) ?_
    have t9 := t42 (m := m') (x := 1) (by rw [hn']; exact hn) (by decide)
    rw [wo_q hn' h5] at t9
    refine m_k1 t9 hw hm rfl rfl rfl (m_ar so3 hw rfl) rfl (fun hc1 hw1 hm1 => ?_)
    refine f_aln 1 rfl hL1 rfl ?_
    refine m_gfr so44 rfl hw1 rfl (by decide) ?_
    refine f_iln 2 rfl hL1 rfl ?_
    refine f_s [fi (1), fi (0), .ref 45, fi (wo m 1)] rfl rfl ?_
    refine f_iadd rfl ?_
    refine b_eq (x := 1) (by decide) ?_
    refine m_aa sr45 rfl hw1 (by omega) (by omega) (by decide) ?_
    refine f_iln 3 rfl hL1 rfl ?_
    refine f_il 0 rfl hL1 rfl ?_
    refine f_s [fi (-1), fi (iS (1) (1)), fi (s), .ref 47, fi (wo m 1)] rfl rfl ?_
    refine b_ixor rfl ?_
    refine b_iand rfl ?_
    refine m_ia sa47 (Bt m 1 (iA (s) (iX (iS (1) (1)) (-1)))) rfl hw1 hm1 (by omega) (by omega) (by decide) jb ?_
    refine f_iadd rfl ?_
    exact f_ret1 rfl ⟨by rw [show wF m 0 s 1 = wo m 1 + Bt m 1 (iA (s) (iX (iS (1) (1)) (-1))) from if_pos (by rw [decide_eq_true c1] at bk9; have := bk9.symm; rw [Bool.and_eq_true] at this; exact this)], hw1, hm1⟩
  · have c1 : ¬ (¬ (iA (iA (s) (fsC m 0)) (iS (1) (1)) : Int) = (0 : Int)) := c1
    refine f_bipush (n := -9) rfl (by decide) ?_
    exact f_ret1 rfl ⟨by rw [show wF m 0 s 1 = -9 from if_neg (fun z => by rw [decide_eq_false c1] at bk9; have y : (tB s 1 && tB (fsC m 0) 1) = true := (by rw [Bool.and_eq_true]; exact z); rw [← bk9] at y; cases y)], hw, hm⟩)
theorem t127_03 {m m' : Nat → Nat → Int} (hn : 0 ≤ m 3 5 ∧ m 3 5 ≤ 4) (hv : ∀ k : Nat, 0 ≤ wo m (k : Int) ∧ wo m (k : Int) ≤ 9) (hn' : m' 3 5 = m 3 5) (h5 : ∀ k, m' 5 k = m 5 k) (hB : ∀ j : Nat, j < 16 → m' 47 j = Bt m 1 (j : Int)) (hF : m' 52 0 = fsC m 0) {s : Int} (hs : 0 ≤ s ∧ s ≤ 15) : h_M 127 [.ref 44, fi (0), fi (s), fi (3)] m' (some (fi (wF m 0 s 2))) m' := h_M_of (R := ev_r127) rfl (fun hc hw hm => by
  have hL : f_L (lv_args 0 [.ref 44, fi (0), fi (s), fi (3)]) [(0, .ref 44), (1, fi (0)), (2, fi (s)), (3, fi (3))] := f_L_of rfl
  generalize lv_args 0 [.ref 44, fi (0), fi (s), fi (3)] = L at hL
  show x_W none (1, 0, 5, 3, 6, 2, 42, 0, 0, ev_t127) 0 L [] hc 0 0 _
  have hR := gi_R hm
  refine f_iln 1 rfl hL rfl ?_
  refine f_if rfl (by decide) (fun c_9 => absurd (show (0 : Int) < (0 : Int) from c_9) (by decide)) (fun _ => ?_)
  refine f_iln 1 rfl hL rfl ?_
  refine f_s [fi (5), fi (0)] rfl rfl ?_
  refine f_ic rfl (by decide) (by decide) (fun c_9 => absurd (show (5 : Int) ≤ (0 : Int) from c_9) (by decide)) (fun _ => ?_)
  refine f_iln 2 rfl hL rfl ?_
  refine f_if rfl (by omega) (fun c_9 => absurd (show (s : Int) < (0 : Int) from c_9) (by omega)) (fun _ => ?_)
  refine f_iln 2 rfl hL rfl ?_
  refine f_bipush (n := 16) rfl (by decide) ?_
  refine f_ic rfl (by omega) (by decide) (fun _ => ?_) (fun c_9 => absurd (show (s : Int) < (16 : Int) from (by omega)) c_9)
  have F15 := fsC_15 hn 0
  have bk9 := (bit_k hs F15).2.2.1
  have s2 := s_15 (y := iX (iS (1) (2)) (-1)) hs
  have jb := hB (iA (s) (iX (iS (1) (2)) (-1))).toNat (by omega)
  rw [show (((iA (s) (iX (iS (1) (2)) (-1))).toNat : Nat) : Int) = iA (s) (iX (iS (1) (2)) (-1)) by omega] at jb
  refine f_iln 3 rfl hL rfl ?_
  refine f_if rfl (by decide) (fun _ => ?_) (fun c_9 => absurd (show ¬ (3 : Int) = (0 : Int) from (by decide)) c_9)
  refine f_s [fi (1)] rfl rfl ?_
  refine f_iln 3 rfl hL rfl ?_
  refine f_s [fi (1), fi (3), fi (1)] rfl rfl ?_
  refine f_isub rfl ?_
  refine b_eq (x := 2) (by decide) ?_
  refine b_ishl rfl ?_
  refine f_ist [(4, fi (iS (1) (2))), (0, .ref 44), (1, fi (0)), (2, fi (s)), (3, fi (3))] rfl (by decide) hL rfl (fun L1 hL1 => ?_)
  refine f_iln 3 rfl hL1 rfl ?_
  refine f_aln 1 rfl hL1 rfl ?_
  refine m_gfr so44 rfl hw rfl (by decide) ?_
  refine f_iln 2 rfl hL1 rfl ?_
  refine m_ia sa52 (fsC m 0) rfl hw hm (by omega) (by omega) (by decide) hF ?_
  refine b_iand rfl ?_
  refine f_il 0 rfl hL1 rfl ?_
  refine b_iand rfl ?_
  refine f_if rfl iA_r (fun c1 => ?_) (fun c1 => ?_)
  · have c1 : ¬ (iA (iA (s) (fsC m 0)) (iS (1) (2)) : Int) = (0 : Int) := c1
    refine f_aln 1 rfl hL1 rfl ?_
    refine m_gfr so44 rfl hw rfl (by decide) ?_
    refine f_iln 4 rfl hL1 rfl ?_
    refine f_s [fi (1), fi (3), .ref 3] rfl rfl ?_
    refine f_isub rfl ?_
    refine b_eq (x := 2) (by decide) ?_
    have t9 := t42 (m := m') (x := 2) (by rw [hn']; exact hn) (by decide)
    rw [wo_q hn' h5] at t9
    refine m_k1 t9 hw hm rfl rfl rfl (m_ar so3 hw rfl) rfl (fun hc1 hw1 hm1 => ?_)
    refine f_aln 1 rfl hL1 rfl ?_
    refine m_gfr so44 rfl hw1 rfl (by decide) ?_
    refine f_iln 2 rfl hL1 rfl ?_
    refine f_s [fi (1), fi (0), .ref 45, fi (wo m 2)] rfl rfl ?_
    refine f_iadd rfl ?_
    refine b_eq (x := 1) (by decide) ?_
    refine m_aa sr45 rfl hw1 (by omega) (by omega) (by decide) ?_
    refine f_iln 3 rfl hL1 rfl ?_
    refine f_il 0 rfl hL1 rfl ?_
    refine f_s [fi (-1), fi (iS (1) (2)), fi (s), .ref 47, fi (wo m 2)] rfl rfl ?_
    refine b_ixor rfl ?_
    refine b_iand rfl ?_
    refine m_ia sa47 (Bt m 1 (iA (s) (iX (iS (1) (2)) (-1)))) rfl hw1 hm1 (by omega) (by omega) (by decide) jb ?_
    refine f_iadd rfl ?_
    exact f_ret1 rfl ⟨by rw [show wF m 0 s 2 = wo m 2 + Bt m 1 (iA (s) (iX (iS (1) (2)) (-1))) from if_pos (by rw [decide_eq_true c1] at bk9; have := bk9.symm; rw [Bool.and_eq_true] at this; exact this)], hw1, hm1⟩
  · have c1 : ¬ (¬ (iA (iA (s) (fsC m 0)) (iS (1) (2)) : Int) = (0 : Int)) := c1
    refine f_bipush (n := -9) rfl (by decide) ?_
    exact f_ret1 rfl ⟨by rw [show wF m 0 s 2 = -9 from if_neg (fun z => by rw [decide_eq_false c1] at bk9; have y : (tB s 2 && tB (fsC m 0) 2) = true := (by rw [Bool.and_eq_true]; exact z); rw [← bk9] at y; cases y)], hw, hm⟩)
theorem t127_04 {m m' : Nat → Nat → Int} (hn : 0 ≤ m 3 5 ∧ m 3 5 ≤ 4) (hv : ∀ k : Nat, 0 ≤ wo m (k : Int) ∧ wo m (k : Int) ≤ 9) (hn' : m' 3 5 = m 3 5) (h5 : ∀ k, m' 5 k = m 5 k) (hB : ∀ j : Nat, j < 16 → m' 47 j = Bt m 1 (j : Int)) (hF : m' 52 0 = fsC m 0) {s : Int} (hs : 0 ≤ s ∧ s ≤ 15) : h_M 127 [.ref 44, fi (0), fi (s), fi (4)] m' (some (fi (wF m 0 s 3))) m' := h_M_of (R := ev_r127) rfl (fun hc hw hm => by
  have hL : f_L (lv_args 0 [.ref 44, fi (0), fi (s), fi (4)]) [(0, .ref 44), (1, fi (0)), (2, fi (s)), (3, fi (4))] := f_L_of rfl
  generalize lv_args 0 [.ref 44, fi (0), fi (s), fi (4)] = L at hL
  show x_W none (1, 0, 5, 3, 6, 2, 42, 0, 0, ev_t127) 0 L [] hc 0 0 _
  have hR := gi_R hm
  refine f_iln 1 rfl hL rfl ?_
  refine f_if rfl (by decide) (fun c_9 => absurd (show (0 : Int) < (0 : Int) from c_9) (by decide)) (fun _ => ?_)
  refine f_iln 1 rfl hL rfl ?_
  refine f_s [fi (5), fi (0)] rfl rfl ?_
  refine f_ic rfl (by decide) (by decide) (fun c_9 => absurd (show (5 : Int) ≤ (0 : Int) from c_9) (by decide)) (fun _ => ?_)
  refine f_iln 2 rfl hL rfl ?_
  refine f_if rfl (by omega) (fun c_9 => absurd (show (s : Int) < (0 : Int) from c_9) (by omega)) (fun _ => ?_)
  refine f_iln 2 rfl hL rfl ?_
  refine f_bipush (n := 16) rfl (by decide) ?_
  refine f_ic rfl (by omega) (by decide) (fun _ => ?_) (fun c_9 => absurd (show (s : Int) < (16 : Int) from (by omega)) c_9)
  have F15 := fsC_15 hn 0
  have bk9 := (bit_k hs F15).2.2.2
  have s2 := s_15 (y := iX (iS (1) (3)) (-1)) hs
  have jb := hB (iA (s) (iX (iS (1) (3)) (-1))).toNat (by omega)
  rw [show (((iA (s) (iX (iS (1) (3)) (-1))).toNat : Nat) : Int) = iA (s) (iX (iS (1) (3)) (-1)) by omega] at jb
  refine f_iln 3 rfl hL rfl ?_
  refine f_if rfl (by decide) (fun _ => ?_) (fun c_9 => absurd (show ¬ (4 : Int) = (0 : Int) from (by decide)) c_9)
  refine f_s [fi (1)] rfl rfl ?_
  refine f_iln 3 rfl hL rfl ?_
  refine f_s [fi (1), fi (4), fi (1)] rfl rfl ?_
  refine f_isub rfl ?_
  refine b_eq (x := 3) (by decide) ?_
  refine b_ishl rfl ?_
  refine f_ist [(4, fi (iS (1) (3))), (0, .ref 44), (1, fi (0)), (2, fi (s)), (3, fi (4))] rfl (by decide) hL rfl (fun L1 hL1 => ?_)
  refine f_iln 3 rfl hL1 rfl ?_
  refine f_aln 1 rfl hL1 rfl ?_
  refine m_gfr so44 rfl hw rfl (by decide) ?_
  refine f_iln 2 rfl hL1 rfl ?_
  refine m_ia sa52 (fsC m 0) rfl hw hm (by omega) (by omega) (by decide) hF ?_
  refine b_iand rfl ?_
  refine f_il 0 rfl hL1 rfl ?_
  refine b_iand rfl ?_
  refine f_if rfl iA_r (fun c1 => ?_) (fun c1 => ?_)
  · have c1 : ¬ (iA (iA (s) (fsC m 0)) (iS (1) (3)) : Int) = (0 : Int) := c1
    refine f_aln 1 rfl hL1 rfl ?_
    refine m_gfr so44 rfl hw rfl (by decide) ?_
    refine f_iln 4 rfl hL1 rfl ?_
    refine f_s [fi (1), fi (4), .ref 3] rfl rfl ?_
    refine f_isub rfl ?_
    refine b_eq (x := 3) (by decide) ?_
    have t9 := t42 (m := m') (x := 3) (by rw [hn']; exact hn) (by decide)
    rw [wo_q hn' h5] at t9
    refine m_k1 t9 hw hm rfl rfl rfl (m_ar so3 hw rfl) rfl (fun hc1 hw1 hm1 => ?_)
    refine f_aln 1 rfl hL1 rfl ?_
    refine m_gfr so44 rfl hw1 rfl (by decide) ?_
    refine f_iln 2 rfl hL1 rfl ?_
    refine f_s [fi (1), fi (0), .ref 45, fi (wo m 3)] rfl rfl ?_
    refine f_iadd rfl ?_
    refine b_eq (x := 1) (by decide) ?_
    refine m_aa sr45 rfl hw1 (by omega) (by omega) (by decide) ?_
    refine f_iln 3 rfl hL1 rfl ?_
    refine f_il 0 rfl hL1 rfl ?_
    refine f_s [fi (-1), fi (iS (1) (3)), fi (s), .ref 47, fi (wo m 3)] rfl rfl ?_
    refine b_ixor rfl ?_
    refine b_iand rfl ?_
    refine m_ia sa47 (Bt m 1 (iA (s) (iX (iS (1) (3)) (-1)))) rfl hw1 hm1 (by omega) (by omega) (by decide) jb ?_
    refine f_iadd rfl ?_
    exact f_ret1 rfl ⟨by rw [show wF m 0 s 3 = wo m 3 + Bt m 1 (iA (s) (iX (iS (1) (3)) (-1))) from if_pos (by rw [decide_eq_true c1] at bk9; have := bk9.symm; rw [Bool.and_eq_true] at this; exact this)], hw1, hm1⟩
  · have c1 : ¬ (¬ (iA (iA (s) (fsC m 0)) (iS (1) (3)) : Int) = (0 : Int)) := c1
    refine f_bipush (n := -9) rfl (by decide) ?_
    exact f_ret1 rfl ⟨by rw [show wF m 0 s 3 = -9 from if_neg (fun z => by rw [decide_eq_false c1] at bk9; have y : (tB s 3 && tB (fsC m 0) 3) = true := (by rw [Bool.and_eq_true]; exact z); rw [← bk9] at y; cases y)], hw, hm⟩)
theorem t128_0 {m m' : Nat → Nat → Int} (hn : 0 ≤ m 3 5 ∧ m 3 5 ≤ 4) (hv : ∀ k : Nat, 0 ≤ wo m (k : Int) ∧ wo m (k : Int) ≤ 9) (hn' : m' 3 5 = m 3 5) (h5 : ∀ k, m' 5 k = m 5 k) (hB : ∀ j : Nat, j < 16 → m' 47 j = Bt m 1 (j : Int)) (hF : m' 52 0 = fsC m 0) {s : Int} (hs : 0 ≤ s ∧ s ≤ 15) : h_M 128 [.ref 44, fi (0), fi (s)] m' (some (fi (Bt m 0 s))) m' := h_M_of (R := ev_r128) rfl (fun hc hw hm => by
  have hL : f_L (lv_args 0 [.ref 44, fi (0), fi (s)]) [(0, .ref 44), (1, fi (0)), (2, fi (s))] := f_L_of rfl
  generalize lv_args 0 [.ref 44, fi (0), fi (s)] = L at hL
  show x_W none (1, 0, 5, 2, 6, 3, 66, 0, 0, ev_t128) 0 L [] hc 0 0 _
  have hR := gi_R hm
  have r0 := Bt_r hv 1 s
  have r1 := wF_r hv 0 s 0
  have r2 := wF_r hv 0 s 1
  have r3 := wF_r hv 0 s 2
  have r4 := wF_r hv 0 s 3
  refine f_s [fi (0)] rfl rfl ?_
  refine f_istn [(3, fi (0)), (0, .ref 44), (1, fi (0)), (2, fi (s))] rfl (by decide) hL rfl (fun L1 hL1 => ?_)
  refine f_s [fi (0)] rfl rfl ?_
  refine f_ist [(4, fi (0)), (3, fi (0)), (0, .ref 44), (1, fi (0)), (2, fi (s))] rfl (by decide) hL1 rfl (fun L2 hL2 => ?_)
  refine f_il 0 rfl hL2 rfl ?_
  refine f_s [fi (4), fi (0)] rfl rfl ?_
  refine f_ic rfl (by decide) (by decide) (fun c_9 => absurd (show (4 : Int) < (0 : Int) from c_9) (by decide)) (fun _ => ?_)
  refine f_iln 1 rfl hL2 rfl ?_
  refine f_aln 2 rfl hL2 rfl ?_
  refine f_iln 3 rfl hL2 rfl ?_
  refine f_iln 4 rfl hL2 rfl ?_
  refine f_il 0 rfl hL2 rfl ?_
  refine m_k1 (t127_00 hn hv hn' h5 hB hF hs) hw hm rfl rfl rfl (m_ar so44 hw rfl) rfl (fun hc1 hw1 hm1 => ?_)
  refine m_k1 (t106 (x := 0) (y := Bt m 1 s) (by omega) (by omega)) hw1 hm1 rfl rfl rfl rfl rfl (fun hc2 hw2 hm2 => ?_)
  refine f_istn [(3, fi (max (0) (Bt m 1 s))), (4, fi (0)), (0, .ref 44), (1, fi (0)), (2, fi (s))] rfl (by decide) hL2 rfl (fun L3 hL3 => ?_)
  refine f_inc 1 [(4, fi (1)), (3, fi (max (0) (Bt m 1 s))), (0, .ref 44), (1, fi (0)), (2, fi (s))] rfl (by decide) hL3 rfl rfl (fun L4 hL4 => ?_)
  refine f_goto rfl ?_
  refine f_il 0 rfl hL4 rfl ?_
  refine f_s [fi (4), fi (1)] rfl rfl ?_
  refine f_ic rfl (by decide) (by decide) (fun c_9 => absurd (show (4 : Int) < (1 : Int) from c_9) (by decide)) (fun _ => ?_)
  refine f_iln 1 rfl hL4 rfl ?_
  refine f_aln 2 rfl hL4 rfl ?_
  refine f_iln 3 rfl hL4 rfl ?_
  refine f_iln 4 rfl hL4 rfl ?_
  refine f_il 0 rfl hL4 rfl ?_
  refine m_k1 (t127_01 hn hv hn' h5 hB hF hs) hw2 hm2 rfl rfl rfl (m_ar so44 hw2 rfl) rfl (fun hc3 hw3 hm3 => ?_)
  refine m_k1 (t106 (x := max (0) (Bt m 1 s)) (y := wF m 0 s 0) (by omega) (by omega)) hw3 hm3 rfl rfl rfl rfl rfl (fun hc4 hw4 hm4 => ?_)
  refine f_istn [(3, fi (max (max (0) (Bt m 1 s)) (wF m 0 s 0))), (4, fi (1)), (0, .ref 44), (1, fi (0)), (2, fi (s))] rfl (by decide) hL4 rfl (fun L5 hL5 => ?_)
  refine f_inc 1 [(4, fi (2)), (3, fi (max (max (0) (Bt m 1 s)) (wF m 0 s 0))), (0, .ref 44), (1, fi (0)), (2, fi (s))] rfl (by decide) hL5 rfl rfl (fun L6 hL6 => ?_)
  refine f_goto rfl ?_
  refine f_il 0 rfl hL6 rfl ?_
  refine f_s [fi (4), fi (2)] rfl rfl ?_
  refine f_ic rfl (by decide) (by decide) (fun c_9 => absurd (show (4 : Int) < (2 : Int) from c_9) (by decide)) (fun _ => ?_)
  refine f_iln 1 rfl hL6 rfl ?_
  refine f_aln 2 rfl hL6 rfl ?_
  refine f_iln 3 rfl hL6 rfl ?_
  refine f_iln 4 rfl hL6 rfl ?_
  refine f_il 0 rfl hL6 rfl ?_
  refine m_k1 (t127_02 hn hv hn' h5 hB hF hs) hw4 hm4 rfl rfl rfl (m_ar so44 hw4 rfl) rfl (fun hc5 hw5 hm5 => ?_)
  refine m_k1 (t106 (x := max (max (0) (Bt m 1 s)) (wF m 0 s 0)) (y := wF m 0 s 1) (by omega) (by omega)) hw5 hm5 rfl rfl rfl rfl rfl (fun hc6 hw6 hm6 => ?_)
  refine f_istn [(3, fi (max (max (max (0) (Bt m 1 s)) (wF m 0 s 0)) (wF m 0 s 1))), (4, fi (2)), (0, .ref 44), (1, fi (0)), (2, fi (s))] rfl (by decide) hL6 rfl (fun L7 hL7 => ?_)
  refine f_inc 1 [(4, fi (3)), (3, fi (max (max (max (0) (Bt m 1 s)) (wF m 0 s 0)) (wF m 0 s 1))), (0, .ref 44), (1, fi (0)), (2, fi (s))] rfl (by decide) hL7 rfl rfl (fun L8 hL8 => ?_)
  refine f_goto rfl ?_
  refine f_il 0 rfl hL8 rfl ?_
  refine f_s [fi (4), fi (3)] rfl rfl ?_
  refine f_ic rfl (by decide) (by decide) (fun c_9 => absurd (show (4 : Int) < (3 : Int) from c_9) (by decide)) (fun _ => ?_)
  refine f_iln 1 rfl hL8 rfl ?_
  refine f_aln 2 rfl hL8 rfl ?_
  refine f_iln 3 rfl hL8 rfl ?_
  refine f_iln 4 rfl hL8 rfl ?_
  refine f_il 0 rfl hL8 rfl ?_
  refine m_k1 (t127_03 hn hv hn' h5 hB hF hs) hw6 hm6 rfl rfl rfl (m_ar so44 hw6 rfl) rfl (fun hc7 hw7 hm7 => ?_)
  refine m_k1 (t106 (x := max (max (max (0) (Bt m 1 s)) (wF m 0 s 0)) (wF m 0 s 1)) (y := wF m 0 s 2) (by omega) (by omega)) hw7 hm7 rfl rfl rfl rfl rfl (fun hc8 hw8 hm8 => ?_)
  refine f_istn [(3, fi (max (max (max (max (0) (Bt m 1 s)) (wF m 0 s 0)) (wF m 0 s 1)) (wF m 0 s 2))), (4, fi (3)), (0, .ref 44), (1, fi (0)), (2, fi (s))] rfl (by decide) hL8 rfl (fun L9 hL9 => ?_)
  refine f_inc 1 [(4, fi (4)), (3, fi (max (max (max (max (0) (Bt m 1 s)) (wF m 0 s 0)) (wF m 0 s 1)) (wF m 0 s 2))), (0, .ref 44), (1, fi (0)), (2, fi (s))] rfl (by decide) hL9 rfl rfl (fun L10 hL10 => ?_)
  refine f_goto rfl ?_
  refine f_il 0 rfl hL10 rfl ?_
  refine f_s [fi (4), fi (4)] rfl rfl ?_
  refine f_ic rfl (by decide) (by decide) (fun c_9 => absurd (show (4 : Int) < (4 : Int) from c_9) (by decide)) (fun _ => ?_)
  refine f_iln 1 rfl hL10 rfl ?_
  refine f_aln 2 rfl hL10 rfl ?_
  refine f_iln 3 rfl hL10 rfl ?_
  refine f_iln 4 rfl hL10 rfl ?_
  refine f_il 0 rfl hL10 rfl ?_
  refine m_k1 (t127_04 hn hv hn' h5 hB hF hs) hw8 hm8 rfl rfl rfl (m_ar so44 hw8 rfl) rfl (fun hc9 hw9 hm9 => ?_)
  refine m_k1 (t106 (x := max (max (max (max (0) (Bt m 1 s)) (wF m 0 s 0)) (wF m 0 s 1)) (wF m 0 s 2)) (y := wF m 0 s 3) (by omega) (by omega)) hw9 hm9 rfl rfl rfl rfl rfl (fun hc10 hw10 hm10 => ?_)
  refine f_istn [(3, fi (max (max (max (max (max (0) (Bt m 1 s)) (wF m 0 s 0)) (wF m 0 s 1)) (wF m 0 s 2)) (wF m 0 s 3))), (4, fi (4)), (0, .ref 44), (1, fi (0)), (2, fi (s))] rfl (by decide) hL10 rfl (fun L11 hL11 => ?_)
  refine f_inc 1 [(4, fi (5)), (3, fi (max (max (max (max (max (0) (Bt m 1 s)) (wF m 0 s 0)) (wF m 0 s 1)) (wF m 0 s 2)) (wF m 0 s 3))), (0, .ref 44), (1, fi (0)), (2, fi (s))] rfl (by decide) hL11 rfl rfl (fun L12 hL12 => ?_)
  refine f_goto rfl ?_
  refine f_il 0 rfl hL12 rfl ?_
  refine f_s [fi (4), fi (5)] rfl rfl ?_
  refine f_ic rfl (by decide) (by decide) (fun _ => ?_) (fun c_9 => absurd (show (4 : Int) < (5 : Int) from (by decide)) c_9)
  refine f_iln 1 rfl hL12 rfl ?_
  exact f_ret1 rfl ⟨by rw [show max (max (max (max (max (0) (Bt m 1 s)) (wF m 0 s 0)) (wF m 0 s 1)) (wF m 0 s 2)) (wF m 0 s 3) = Bt m 0 s from best_m (by decide) hs], hw10, hm10⟩)
theorem t130_0 {m m' : Nat → Nat → Int} (hn : 0 ≤ m 3 5 ∧ m 3 5 ≤ 4) (hv : ∀ k : Nat, 0 ≤ wo m (k : Int) ∧ wo m (k : Int) ≤ 9) (hn' : m' 3 5 = m 3 5) (h5 : ∀ k, m' 5 k = m 5 k) (hB : ∀ j : Nat, j < 16 → m' 47 j = Bt m 1 (j : Int)) (hF : m' 52 0 = fsC m 0) {s : Int} (hs : 0 ≤ s ∧ s ≤ 15) : h_M 130 [.ref 44, fi (0), fi (s)] m' (some (fi ((gd (vW m) (FW m 0) (LsF (FW m) 1 4) (ind s) : Int)))) m' := h_M_of (R := ev_r130) rfl (fun hc hw hm => by
  have hL : f_L (lv_args 0 [.ref 44, fi (0), fi (s)]) [(0, .ref 44), (1, fi (0)), (2, fi (s))] := f_L_of rfl
  generalize lv_args 0 [.ref 44, fi (0), fi (s)] = L at hL
  show x_W none (1, 0, 5, 2, 6, 4, 90, 0, 0, ev_t130) 0 L [] hc 0 0 _
  have hR := gi_R hm
  have r0 := Bt_r hv 1 s
  have r1 := wF_r hv 0 s 0
  have r2 := wF_r hv 0 s 1
  have r3 := wF_r hv 0 s 2
  have r4 := wF_r hv 0 s 3
  have r5 := Bt_r hv 0 s
  have eB : hg (vW m) (FW m 0 :: LsF (FW m) 1 4) (ind s) = Bt m 0 s := rfl
  have eN : hg (vW m) (LsF (FW m) 1 4) (ind s) = Bt m 1 s := rfl
  have gk9 : ∀ k : Nat, (gcB (vW m) (FW m 0) (LsF (FW m) 1 4) (ind s) k = true ↔ wF m 0 s k = Bt m 0 s) := fun k => by
    rcases wF_k (m := m) 0 hs (k := k) with ⟨a1, a2, a3⟩ | ⟨a1, a2⟩
    · unfold gcB
      rw [a1, decide_eq_true a2, Bool.true_and, Bool.true_and, decide_eq_true_iff, eB, a3]
    · refine ⟨fun z => absurd ⟨(gcB_t z).1, (gcB_t z).2.1⟩ a1, fun z => ?_⟩
      rw [a2] at z
      omega
  refine f_aln 0 rfl hL rfl ?_
  refine f_iln 1 rfl hL rfl ?_
  refine f_iln 2 rfl hL rfl ?_
  refine m_k1 (t128_0 hn hv hn' h5 hB hF hs) hw hm rfl rfl rfl (m_ar so44 hw rfl) rfl (fun hc1 hw1 hm1 => ?_)
  refine f_istn [(3, fi (Bt m 0 s)), (0, .ref 44), (1, fi (0)), (2, fi (s))] rfl (by decide) hL rfl (fun L1 hL1 => ?_)
  refine f_s [fi (0)] rfl rfl ?_
  refine f_ist [(4, fi (0)), (3, fi (Bt m 0 s)), (0, .ref 44), (1, fi (0)), (2, fi (s))] rfl (by decide) hL1 rfl (fun L2 hL2 => ?_)
  refine f_il 0 rfl hL2 rfl ?_
  refine f_s [fi (4), fi (0)] rfl rfl ?_
  refine f_ic rfl (by decide) (by decide) (fun c_9 => absurd (show (4 : Int) < (0 : Int) from c_9) (by decide)) (fun _ => ?_)
  refine f_aln 2 rfl hL2 rfl ?_
  refine f_iln 3 rfl hL2 rfl ?_
  refine f_iln 4 rfl hL2 rfl ?_
  refine f_il 0 rfl hL2 rfl ?_
  refine m_k1 (t127_00 hn hv hn' h5 hB hF hs) hw1 hm1 rfl rfl rfl (m_ar so44 hw1 rfl) rfl (fun hc2 hw2 hm2 => ?_)
  refine f_iln 1 rfl hL2 rfl ?_
  refine f_ic rfl (by omega) (by omega) (fun d0 => ?_) (fun d0 => ?_)
  · have d0 : ¬ (Bt m 1 s : Int) = (Bt m 0 s : Int) := d0
    refine f_inc 0 [(4, fi (1)), (3, fi (Bt m 0 s)), (0, .ref 44), (1, fi (0)), (2, fi (s))] rfl (by decide) hL2 rfl rfl (fun L3 hL3 => ?_)
    refine f_goto rfl ?_
    refine f_il 0 rfl hL3 rfl ?_
    refine f_s [fi (4), fi (1)] rfl rfl ?_
    refine f_ic rfl (by decide) (by decide) (fun c_9 => absurd (show (4 : Int) < (1 : Int) from c_9) (by decide)) (fun _ => ?_)
    refine f_aln 2 rfl hL3 rfl ?_
    refine f_iln 3 rfl hL3 rfl ?_
    refine f_iln 4 rfl hL3 rfl ?_
    refine f_il 0 rfl hL3 rfl ?_
    refine m_k1 (t127_01 hn hv hn' h5 hB hF hs) hw2 hm2 rfl rfl rfl (m_ar so44 hw2 rfl) rfl (fun hc3 hw3 hm3 => ?_)
    refine f_iln 1 rfl hL3 rfl ?_
    refine f_ic rfl (by omega) (by omega) (fun d1 => ?_) (fun d1 => ?_)
    · have d1 : ¬ (wF m 0 s 0 : Int) = (Bt m 0 s : Int) := d1
      refine f_inc 0 [(4, fi (2)), (3, fi (Bt m 0 s)), (0, .ref 44), (1, fi (0)), (2, fi (s))] rfl (by decide) hL3 rfl rfl (fun L4 hL4 => ?_)
      refine f_goto rfl ?_
      refine f_il 0 rfl hL4 rfl ?_
      refine f_s [fi (4), fi (2)] rfl rfl ?_
      refine f_ic rfl (by decide) (by decide) (fun c_9 => absurd (show (4 : Int) < (2 : Int) from c_9) (by decide)) (fun _ => ?_)
      refine f_aln 2 rfl hL4 rfl ?_
      refine f_iln 3 rfl hL4 rfl ?_
      refine f_iln 4 rfl hL4 rfl ?_
      refine f_il 0 rfl hL4 rfl ?_
      refine m_k1 (t127_02 hn hv hn' h5 hB hF hs) hw3 hm3 rfl rfl rfl (m_ar so44 hw3 rfl) rfl (fun hc4 hw4 hm4 => ?_)
      refine f_iln 1 rfl hL4 rfl ?_
      refine f_ic rfl (by omega) (by omega) (fun d2 => ?_) (fun d2 => ?_)
      · have d2 : ¬ (wF m 0 s 1 : Int) = (Bt m 0 s : Int) := d2
        refine f_inc 0 [(4, fi (3)), (3, fi (Bt m 0 s)), (0, .ref 44), (1, fi (0)), (2, fi (s))] rfl (by decide) hL4 rfl rfl (fun L5 hL5 => ?_)
        refine f_goto rfl ?_
        refine f_il 0 rfl hL5 rfl ?_
        refine f_s [fi (4), fi (3)] rfl rfl ?_
        refine f_ic rfl (by decide) (by decide) (fun c_9 => absurd (show (4 : Int) < (3 : Int) from c_9) (by decide)) (fun _ => ?_)
        refine f_aln 2 rfl hL5 rfl ?_
        refine f_iln 3 rfl hL5 rfl ?_
        refine f_iln 4 rfl hL5 rfl ?_
        refine f_il 0 rfl hL5 rfl ?_
        refine m_k1 (t127_03 hn hv hn' h5 hB hF hs) hw4 hm4 rfl rfl rfl (m_ar so44 hw4 rfl) rfl (fun hc5 hw5 hm5 => ?_)
        refine f_iln 1 rfl hL5 rfl ?_
        refine f_ic rfl (by omega) (by omega) (fun d3 => ?_) (fun d3 => ?_)
        · have d3 : ¬ (wF m 0 s 2 : Int) = (Bt m 0 s : Int) := d3
          refine f_inc 0 [(4, fi (4)), (3, fi (Bt m 0 s)), (0, .ref 44), (1, fi (0)), (2, fi (s))] rfl (by decide) hL5 rfl rfl (fun L6 hL6 => ?_)
          refine f_goto rfl ?_
          refine f_il 0 rfl hL6 rfl ?_
          refine f_s [fi (4), fi (4)] rfl rfl ?_
          refine f_ic rfl (by decide) (by decide) (fun c_9 => absurd (show (4 : Int) < (4 : Int) from c_9) (by decide)) (fun _ => ?_)
          refine f_aln 2 rfl hL6 rfl ?_
          refine f_iln 3 rfl hL6 rfl ?_
          refine f_iln 4 rfl hL6 rfl ?_
          refine f_il 0 rfl hL6 rfl ?_
          refine m_k1 (t127_04 hn hv hn' h5 hB hF hs) hw5 hm5 rfl rfl rfl (m_ar so44 hw5 rfl) rfl (fun hc6 hw6 hm6 => ?_)
          refine f_iln 1 rfl hL6 rfl ?_
          refine f_ic rfl (by omega) (by omega) (fun d4 => ?_) (fun d4 => ?_)
          · have d4 : ¬ (wF m 0 s 3 : Int) = (Bt m 0 s : Int) := d4
            refine f_inc 0 [(4, fi (5)), (3, fi (Bt m 0 s)), (0, .ref 44), (1, fi (0)), (2, fi (s))] rfl (by decide) hL6 rfl rfl (fun L7 hL7 => ?_)
            refine f_goto rfl ?_
            refine f_il 0 rfl hL7 rfl ?_
            refine f_s [fi (4), fi (5)] rfl rfl ?_
            refine f_ic rfl (by decide) (by decide) (fun _ => ?_) (fun c_9 => absurd (show (4 : Int) < (5 : Int) from (by decide)) c_9)
            refine f_s [fi (0)] rfl rfl ?_
            have e9 : gd (vW m) (FW m 0) (LsF (FW m) 1 4) (ind s) = 0 := by
              unfold gd
              rw [eB, eN, if_neg d0, if_neg (fun z => d1 ((gk9 0).mp z)), if_neg (fun z => d2 ((gk9 1).mp z)), if_neg (fun z => d3 ((gk9 2).mp z)), if_neg (fun z => d4 ((gk9 3).mp z))]
            exact f_ret1 rfl ⟨by rw [e9]; rfl, hw6, hm6⟩
          · have d4 : ¬ (¬ (wF m 0 s 3 : Int) = (Bt m 0 s : Int)) := d4
            have d4 : wF m 0 s 3 = Bt m 0 s := Classical.byContradiction d4
            refine f_il 0 rfl hL6 rfl ?_
            have e9 : gd (vW m) (FW m 0) (LsF (FW m) 1 4) (ind s) = 4 := by
              unfold gd
              rw [eB, eN, if_neg d0, if_neg (fun z => d1 ((gk9 0).mp z)), if_neg (fun z => d2 ((gk9 1).mp z)), if_neg (fun z => d3 ((gk9 2).mp z)), if_pos ((gk9 3).mpr d4)]
            exact f_ret1 rfl ⟨by rw [e9]; rfl, hw6, hm6⟩
        · have d3 : ¬ (¬ (wF m 0 s 2 : Int) = (Bt m 0 s : Int)) := d3
          have d3 : wF m 0 s 2 = Bt m 0 s := Classical.byContradiction d3
          refine f_il 0 rfl hL5 rfl ?_
          have e9 : gd (vW m) (FW m 0) (LsF (FW m) 1 4) (ind s) = 3 := by
            unfold gd
            rw [eB, eN, if_neg d0, if_neg (fun z => d1 ((gk9 0).mp z)), if_neg (fun z => d2 ((gk9 1).mp z)), if_pos ((gk9 2).mpr d3)]
          exact f_ret1 rfl ⟨by rw [e9]; rfl, hw5, hm5⟩
      · have d2 : ¬ (¬ (wF m 0 s 1 : Int) = (Bt m 0 s : Int)) := d2
        have d2 : wF m 0 s 1 = Bt m 0 s := Classical.byContradiction d2
        refine f_il 0 rfl hL4 rfl ?_
        have e9 : gd (vW m) (FW m 0) (LsF (FW m) 1 4) (ind s) = 2 := by
          unfold gd
          rw [eB, eN, if_neg d0, if_neg (fun z => d1 ((gk9 0).mp z)), if_pos ((gk9 1).mpr d2)]
        exact f_ret1 rfl ⟨by rw [e9]; rfl, hw4, hm4⟩
    · have d1 : ¬ (¬ (wF m 0 s 0 : Int) = (Bt m 0 s : Int)) := d1
      have d1 : wF m 0 s 0 = Bt m 0 s := Classical.byContradiction d1
      refine f_il 0 rfl hL3 rfl ?_
      have e9 : gd (vW m) (FW m 0) (LsF (FW m) 1 4) (ind s) = 1 := by
        unfold gd
        rw [eB, eN, if_neg d0, if_pos ((gk9 0).mpr d1)]
      exact f_ret1 rfl ⟨by rw [e9]; rfl, hw3, hm3⟩
  · have d0 : ¬ (¬ (Bt m 1 s : Int) = (Bt m 0 s : Int)) := d0
    have d0 : Bt m 1 s = Bt m 0 s := Classical.byContradiction d0
    refine f_il 0 rfl hL2 rfl ?_
    have e9 : gd (vW m) (FW m 0) (LsF (FW m) 1 4) (ind s) = 0 := by
      unfold gd
      rw [eB, eN, if_pos d0]
    exact f_ret1 rfl ⟨by rw [e9]; rfl, hw2, hm2⟩)
theorem t127_10 {m m' : Nat → Nat → Int} (hn : 0 ≤ m 3 5 ∧ m 3 5 ≤ 4) (hv : ∀ k : Nat, 0 ≤ wo m (k : Int) ∧ wo m (k : Int) ≤ 9) (hn' : m' 3 5 = m 3 5) (h5 : ∀ k, m' 5 k = m 5 k) (hB : ∀ j : Nat, j < 16 → m' 48 j = Bt m 2 (j : Int)) (hF : m' 52 1 = fsC m 1) {s : Int} (hs : 0 ≤ s ∧ s ≤ 15) : h_M 127 [.ref 44, fi (1), fi (s), fi (0)] m' (some (fi (Bt m 2 s))) m' := h_M_of (R := ev_r127) rfl (fun hc hw hm => by
  have hL : f_L (lv_args 0 [.ref 44, fi (1), fi (s), fi (0)]) [(0, .ref 44), (1, fi (1)), (2, fi (s)), (3, fi (0))] := f_L_of rfl
  generalize lv_args 0 [.ref 44, fi (1), fi (s), fi (0)] = L at hL
  show x_W none (1, 0, 5, 3, 6, 2, 42, 0, 0, ev_t127) 0 L [] hc 0 0 _
  have hR := gi_R hm
  refine f_iln 1 rfl hL rfl ?_
  refine f_if rfl (by decide) (fun c_9 => absurd (show (1 : Int) < (0 : Int) from c_9) (by decide)) (fun _ => ?_)
  refine f_iln 1 rfl hL rfl ?_
  refine f_s [fi (5), fi (1)] rfl rfl ?_
  refine f_ic rfl (by decide) (by decide) (fun c_9 => absurd (show (5 : Int) ≤ (1 : Int) from c_9) (by decide)) (fun _ => ?_)
  refine f_iln 2 rfl hL rfl ?_
  refine f_if rfl (by omega) (fun c_9 => absurd (show (s : Int) < (0 : Int) from c_9) (by omega)) (fun _ => ?_)
  refine f_iln 2 rfl hL rfl ?_
  refine f_bipush (n := 16) rfl (by decide) ?_
  refine f_ic rfl (by omega) (by decide) (fun _ => ?_) (fun c_9 => absurd (show (s : Int) < (16 : Int) from (by omega)) c_9)
  have jb := hB (s).toNat (by omega)
  rw [show (((s).toNat : Nat) : Int) = s by omega] at jb
  refine f_iln 3 rfl hL rfl ?_
  refine f_if rfl (by decide) (fun c_9 => absurd (show ¬ (0 : Int) = (0 : Int) from c_9) (by decide)) (fun _ => ?_)
  refine f_aln 0 rfl hL rfl ?_
  refine m_gfr so44 rfl hw rfl (by decide) ?_
  refine f_iln 1 rfl hL rfl ?_
  refine f_s [fi (1), fi (1), .ref 45] rfl rfl ?_
  refine f_iadd rfl ?_
  refine b_eq (x := 2) (by decide) ?_
  refine m_aa sr45 rfl hw (by omega) (by omega) (by decide) ?_
  refine f_iln 2 rfl hL rfl ?_
  refine m_ia sa48 (Bt m 2 s) rfl hw hm (by omega) (by omega) (by decide) jb ?_
  exact f_ret1 rfl ⟨rfl, hw, hm⟩)
theorem t127_11 {m m' : Nat → Nat → Int} (hn : 0 ≤ m 3 5 ∧ m 3 5 ≤ 4) (hv : ∀ k : Nat, 0 ≤ wo m (k : Int) ∧ wo m (k : Int) ≤ 9) (hn' : m' 3 5 = m 3 5) (h5 : ∀ k, m' 5 k = m 5 k) (hB : ∀ j : Nat, j < 16 → m' 48 j = Bt m 2 (j : Int)) (hF : m' 52 1 = fsC m 1) {s : Int} (hs : 0 ≤ s ∧ s ≤ 15) : h_M 127 [.ref 44, fi (1), fi (s), fi (1)] m' (some (fi (wF m 1 s 0))) m' := h_M_of (R := ev_r127) rfl (fun hc hw hm => by
  have hL : f_L (lv_args 0 [.ref 44, fi (1), fi (s), fi (1)]) [(0, .ref 44), (1, fi (1)), (2, fi (s)), (3, fi (1))] := f_L_of rfl
  generalize lv_args 0 [.ref 44, fi (1), fi (s), fi (1)] = L at hL
  show x_W none (1, 0, 5, 3, 6, 2, 42, 0, 0, ev_t127) 0 L [] hc 0 0 _
  have hR := gi_R hm
  refine f_iln 1 rfl hL rfl ?_
  refine f_if rfl (by decide) (fun c_9 => absurd (show (1 : Int) < (0 : Int) from c_9) (by decide)) (fun _ => ?_)
  refine f_iln 1 rfl hL rfl ?_
  refine f_s [fi (5), fi (1)] rfl rfl ?_
  refine f_ic rfl (by decide) (by decide) (fun c_9 => absurd (show (5 : Int) ≤ (1 : Int) from c_9) (by decide)) (fun _ => ?_)
  refine f_iln 2 rfl hL rfl ?_
  refine f_if rfl (by omega) (fun c_9 => absurd (show (s : Int) < (0 : Int) from c_9) (by omega)) (fun _ => ?_)
  refine f_iln 2 rfl hL rfl ?_
  refine f_bipush (n := 16) rfl (by decide) ?_
  refine f_ic rfl (by omega) (by decide) (fun _ => ?_) (fun c_9 => absurd (show (s : Int) < (16 : Int) from (by omega)) c_9)
  have F15 := fsC_15 hn 1
  have bk9 := (bit_k hs F15).1
  have s2 := s_15 (y := iX (iS (1) (0)) (-1)) hs
  have jb := hB (iA (s) (iX (iS (1) (0)) (-1))).toNat (by omega)
  rw [show (((iA (s) (iX (iS (1) (0)) (-1))).toNat : Nat) : Int) = iA (s) (iX (iS (1) (0)) (-1)) by omega] at jb
  refine f_iln 3 rfl hL rfl ?_
  refine f_if rfl (by decide) (fun _ => ?_) (fun c_9 => absurd (show ¬ (1 : Int) = (0 : Int) from (by decide)) c_9)
  refine f_s [fi (1)] rfl rfl ?_
  refine f_iln 3 rfl hL rfl ?_
  refine f_s [fi (1), fi (1), fi (1)] rfl rfl ?_
  refine f_isub rfl ?_
  refine b_eq (x := 0) (by decide) ?_
  refine b_ishl rfl ?_
  refine f_ist [(4, fi (iS (1) (0))), (0, .ref 44), (1, fi (1)), (2, fi (s)), (3, fi (1))] rfl (by decide) hL rfl (fun L1 hL1 => ?_)
  refine f_iln 3 rfl hL1 rfl ?_
  refine f_aln 1 rfl hL1 rfl ?_
  refine m_gfr so44 rfl hw rfl (by decide) ?_
  refine f_iln 2 rfl hL1 rfl ?_
  refine m_ia sa52 (fsC m 1) rfl hw hm (by omega) (by omega) (by decide) hF ?_
  refine b_iand rfl ?_
  refine f_il 0 rfl hL1 rfl ?_
  refine b_iand rfl ?_
  refine f_if rfl iA_r (fun c1 => ?_) (fun c1 => ?_)
  · have c1 : ¬ (iA (iA (s) (fsC m 1)) (iS (1) (0)) : Int) = (0 : Int) := c1
    refine f_aln 1 rfl hL1 rfl ?_
    refine m_gfr so44 rfl hw rfl (by decide) ?_
    refine f_iln 4 rfl hL1 rfl ?_
    refine f_s [fi (1), fi (1), .ref 3] rfl rfl ?_
    refine f_isub rfl ?_
    refine b_eq (x := 0) (by decide) ?_
    have t9 := t42 (m := m') (x := 0) (by rw [hn']; exact hn) (by decide)
    rw [wo_q hn' h5] at t9
    refine m_k1 t9 hw hm rfl rfl rfl (m_ar so3 hw rfl) rfl (fun hc1 hw1 hm1 => ?_)
    refine f_aln 1 rfl hL1 rfl ?_
    refine m_gfr so44 rfl hw1 rfl (by decide) ?_
    refine f_iln 2 rfl hL1 rfl ?_
    refine f_s [fi (1), fi (1), .ref 45, fi (wo m 0)] rfl rfl ?_
    refine f_iadd rfl ?_
    refine b_eq (x := 2) (by decide) ?_
    refine m_aa sr45 rfl hw1 (by omega) (by omega) (by decide) ?_
    refine f_iln 3 rfl hL1 rfl ?_
    refine f_il 0 rfl hL1 rfl ?_
    refine f_s [fi (-1), fi (iS (1) (0)), fi (s), .ref 48, fi (wo m 0)] rfl rfl ?_
    refine b_ixor rfl ?_
    refine b_iand rfl ?_
    refine m_ia sa48 (Bt m 2 (iA (s) (iX (iS (1) (0)) (-1)))) rfl hw1 hm1 (by omega) (by omega) (by decide) jb ?_
    refine f_iadd rfl ?_
    exact f_ret1 rfl ⟨by rw [show wF m 1 s 0 = wo m 0 + Bt m 2 (iA (s) (iX (iS (1) (0)) (-1))) from if_pos (by rw [decide_eq_true c1] at bk9; have := bk9.symm; rw [Bool.and_eq_true] at this; exact this)], hw1, hm1⟩
  · have c1 : ¬ (¬ (iA (iA (s) (fsC m 1)) (iS (1) (0)) : Int) = (0 : Int)) := c1
    refine f_bipush (n := -9) rfl (by decide) ?_
    exact f_ret1 rfl ⟨by rw [show wF m 1 s 0 = -9 from if_neg (fun z => by rw [decide_eq_false c1] at bk9; have y : (tB s 0 && tB (fsC m 1) 0) = true := (by rw [Bool.and_eq_true]; exact z); rw [← bk9] at y; cases y)], hw, hm⟩)
theorem t127_12 {m m' : Nat → Nat → Int} (hn : 0 ≤ m 3 5 ∧ m 3 5 ≤ 4) (hv : ∀ k : Nat, 0 ≤ wo m (k : Int) ∧ wo m (k : Int) ≤ 9) (hn' : m' 3 5 = m 3 5) (h5 : ∀ k, m' 5 k = m 5 k) (hB : ∀ j : Nat, j < 16 → m' 48 j = Bt m 2 (j : Int)) (hF : m' 52 1 = fsC m 1) {s : Int} (hs : 0 ≤ s ∧ s ≤ 15) : h_M 127 [.ref 44, fi (1), fi (s), fi (2)] m' (some (fi (wF m 1 s 1))) m' := h_M_of (R := ev_r127) rfl (fun hc hw hm => by
  have hL : f_L (lv_args 0 [.ref 44, fi (1), fi (s), fi (2)]) [(0, .ref 44), (1, fi (1)), (2, fi (s)), (3, fi (2))] := f_L_of rfl
  generalize lv_args 0 [.ref 44, fi (1), fi (s), fi (2)] = L at hL
  show x_W none (1, 0, 5, 3, 6, 2, 42, 0, 0, ev_t127) 0 L [] hc 0 0 _
  have hR := gi_R hm
  refine f_iln 1 rfl hL rfl ?_
  refine f_if rfl (by decide) (fun c_9 => absurd (show (1 : Int) < (0 : Int) from c_9) (by decide)) (fun _ => ?_)
  refine f_iln 1 rfl hL rfl ?_
  refine f_s [fi (5), fi (1)] rfl rfl ?_
  refine f_ic rfl (by decide) (by decide) (fun c_9 => absurd (show (5 : Int) ≤ (1 : Int) from c_9) (by decide)) (fun _ => ?_)
  refine f_iln 2 rfl hL rfl ?_
  refine f_if rfl (by omega) (fun c_9 => absurd (show (s : Int) < (0 : Int) from c_9) (by omega)) (fun _ => ?_)
  refine f_iln 2 rfl hL rfl ?_
  refine f_bipush (n := 16) rfl (by decide) ?_
  refine f_ic rfl (by omega) (by decide) (fun _ => ?_) (fun c_9 => absurd (show (s : Int) < (16 : Int) from (by omega)) c_9)
  have F15 := fsC_15 hn 1
  have bk9 := (bit_k hs F15).2.1
  have s2 := s_15 (y := iX (iS (1) (1)) (-1)) hs
  have jb := hB (iA (s) (iX (iS (1) (1)) (-1))).toNat (by omega)
  rw [show (((iA (s) (iX (iS (1) (1)) (-1))).toNat : Nat) : Int) = iA (s) (iX (iS (1) (1)) (-1)) by omega] at jb
  refine f_iln 3 rfl hL rfl ?_
  refine f_if rfl (by decide) (fun _ => ?_) (fun c_9 => absurd (show ¬ (2 : Int) = (0 : Int) from (by decide)) c_9)
  refine f_s [fi (1)] rfl rfl ?_
  refine f_iln 3 rfl hL rfl ?_
  refine f_s [fi (1), fi (2), fi (1)] rfl rfl ?_
  refine f_isub rfl ?_
  refine b_eq (x := 1) (by decide) ?_
  refine b_ishl rfl ?_
  refine f_ist [(4, fi (iS (1) (1))), (0, .ref 44), (1, fi (1)), (2, fi (s)), (3, fi (2))] rfl (by decide) hL rfl (fun L1 hL1 => ?_)
  refine f_iln 3 rfl hL1 rfl ?_
  refine f_aln 1 rfl hL1 rfl ?_
  refine m_gfr so44 rfl hw rfl (by decide) ?_
  refine f_iln 2 rfl hL1 rfl ?_
  refine m_ia sa52 (fsC m 1) rfl hw hm (by omega) (by omega) (by decide) hF ?_
  refine b_iand rfl ?_
  refine f_il 0 rfl hL1 rfl ?_
  refine b_iand rfl ?_
  refine f_if rfl iA_r (fun c1 => ?_) (fun c1 => ?_)
  · have c1 : ¬ (iA (iA (s) (fsC m 1)) (iS (1) (1)) : Int) = (0 : Int) := c1
    refine f_aln 1 rfl hL1 rfl ?_
    refine m_gfr so44 rfl hw rfl (by decide) ?_
    refine f_iln 4 rfl hL1 rfl ?_
    refine f_s [fi (1), fi (2), .ref 3] rfl rfl ?_
    refine f_isub rfl ?_
    refine b_eq (x := 1) (by decide) ?_
    have t9 := t42 (m := m') (x := 1) (by rw [hn']; exact hn) (by decide)
    rw [wo_q hn' h5] at t9
    refine m_k1 t9 hw hm rfl rfl rfl (m_ar so3 hw rfl) rfl (fun hc1 hw1 hm1 => ?_)
    refine f_aln 1 rfl hL1 rfl ?_
    refine m_gfr so44 rfl hw1 rfl (by decide) ?_
    refine f_iln 2 rfl hL1 rfl ?_
    refine f_s [fi (1), fi (1), .ref 45, fi (wo m 1)] rfl rfl ?_
    refine f_iadd rfl ?_
    refine b_eq (x := 2) (by decide) ?_
    refine m_aa sr45 rfl hw1 (by omega) (by omega) (by decide) ?_
    refine f_iln 3 rfl hL1 rfl ?_
    refine f_il 0 rfl hL1 rfl ?_
    refine f_s [fi (-1), fi (iS (1) (1)), fi (s), .ref 48, fi (wo m 1)] rfl rfl ?_
    refine b_ixor rfl ?_
    refine b_iand rfl ?_
    refine m_ia sa48 (Bt m 2 (iA (s) (iX (iS (1) (1)) (-1)))) rfl hw1 hm1 (by omega) (by omega) (by decide) jb ?_
    refine f_iadd rfl ?_
    exact f_ret1 rfl ⟨by rw [show wF m 1 s 1 = wo m 1 + Bt m 2 (iA (s) (iX (iS (1) (1)) (-1))) from if_pos (by rw [decide_eq_true c1] at bk9; have := bk9.symm; rw [Bool.and_eq_true] at this; exact this)], hw1, hm1⟩
  · have c1 : ¬ (¬ (iA (iA (s) (fsC m 1)) (iS (1) (1)) : Int) = (0 : Int)) := c1
    refine f_bipush (n := -9) rfl (by decide) ?_
    exact f_ret1 rfl ⟨by rw [show wF m 1 s 1 = -9 from if_neg (fun z => by rw [decide_eq_false c1] at bk9; have y : (tB s 1 && tB (fsC m 1) 1) = true := (by rw [Bool.and_eq_true]; exact z); rw [← bk9] at y; cases y)], hw, hm⟩)
theorem t127_13 {m m' : Nat → Nat → Int} (hn : 0 ≤ m 3 5 ∧ m 3 5 ≤ 4) (hv : ∀ k : Nat, 0 ≤ wo m (k : Int) ∧ wo m (k : Int) ≤ 9) (hn' : m' 3 5 = m 3 5) (h5 : ∀ k, m' 5 k = m 5 k) (hB : ∀ j : Nat, j < 16 → m' 48 j = Bt m 2 (j : Int)) (hF : m' 52 1 = fsC m 1) {s : Int} (hs : 0 ≤ s ∧ s ≤ 15) : h_M 127 [.ref 44, fi (1), fi (s), fi (3)] m' (some (fi (wF m 1 s 2))) m' := h_M_of (R := ev_r127) rfl (fun hc hw hm => by
  have hL : f_L (lv_args 0 [.ref 44, fi (1), fi (s), fi (3)]) [(0, .ref 44), (1, fi (1)), (2, fi (s)), (3, fi (3))] := f_L_of rfl
  generalize lv_args 0 [.ref 44, fi (1), fi (s), fi (3)] = L at hL
  show x_W none (1, 0, 5, 3, 6, 2, 42, 0, 0, ev_t127) 0 L [] hc 0 0 _
  have hR := gi_R hm
  refine f_iln 1 rfl hL rfl ?_
  refine f_if rfl (by decide) (fun c_9 => absurd (show (1 : Int) < (0 : Int) from c_9) (by decide)) (fun _ => ?_)
  refine f_iln 1 rfl hL rfl ?_
  refine f_s [fi (5), fi (1)] rfl rfl ?_
  refine f_ic rfl (by decide) (by decide) (fun c_9 => absurd (show (5 : Int) ≤ (1 : Int) from c_9) (by decide)) (fun _ => ?_)
  refine f_iln 2 rfl hL rfl ?_
  refine f_if rfl (by omega) (fun c_9 => absurd (show (s : Int) < (0 : Int) from c_9) (by omega)) (fun _ => ?_)
  refine f_iln 2 rfl hL rfl ?_
  refine f_bipush (n := 16) rfl (by decide) ?_
  refine f_ic rfl (by omega) (by decide) (fun _ => ?_) (fun c_9 => absurd (show (s : Int) < (16 : Int) from (by omega)) c_9)
  have F15 := fsC_15 hn 1
  have bk9 := (bit_k hs F15).2.2.1
  have s2 := s_15 (y := iX (iS (1) (2)) (-1)) hs
  have jb := hB (iA (s) (iX (iS (1) (2)) (-1))).toNat (by omega)
  rw [show (((iA (s) (iX (iS (1) (2)) (-1))).toNat : Nat) : Int) = iA (s) (iX (iS (1) (2)) (-1)) by omega] at jb
  refine f_iln 3 rfl hL rfl ?_
  refine f_if rfl (by decide) (fun _ => ?_) (fun c_9 => absurd (show ¬ (3 : Int) = (0 : Int) from (by decide)) c_9)
  refine f_s [fi (1)] rfl rfl ?_
  refine f_iln 3 rfl hL rfl ?_
  refine f_s [fi (1), fi (3), fi (1)] rfl rfl ?_
  refine f_isub rfl ?_
  refine b_eq (x := 2) (by decide) ?_
  refine b_ishl rfl ?_
  refine f_ist [(4, fi (iS (1) (2))), (0, .ref 44), (1, fi (1)), (2, fi (s)), (3, fi (3))] rfl (by decide) hL rfl (fun L1 hL1 => ?_)
  refine f_iln 3 rfl hL1 rfl ?_
  refine f_aln 1 rfl hL1 rfl ?_
  refine m_gfr so44 rfl hw rfl (by decide) ?_
  refine f_iln 2 rfl hL1 rfl ?_
  refine m_ia sa52 (fsC m 1) rfl hw hm (by omega) (by omega) (by decide) hF ?_
  refine b_iand rfl ?_
  refine f_il 0 rfl hL1 rfl ?_
  refine b_iand rfl ?_
  refine f_if rfl iA_r (fun c1 => ?_) (fun c1 => ?_)
  · have c1 : ¬ (iA (iA (s) (fsC m 1)) (iS (1) (2)) : Int) = (0 : Int) := c1
    refine f_aln 1 rfl hL1 rfl ?_
    refine m_gfr so44 rfl hw rfl (by decide) ?_
    refine f_iln 4 rfl hL1 rfl ?_
    refine f_s [fi (1), fi (3), .ref 3] rfl rfl ?_
    refine f_isub rfl ?_
    refine b_eq (x := 2) (by decide) ?_
    have t9 := t42 (m := m') (x := 2) (by rw [hn']; exact hn) (by decide)
    rw [wo_q hn' h5] at t9
    refine m_k1 t9 hw hm rfl rfl rfl (m_ar so3 hw rfl) rfl (fun hc1 hw1 hm1 => ?_)
    refine f_aln 1 rfl hL1 rfl ?_
    refine m_gfr so44 rfl hw1 rfl (by decide) ?_
    refine f_iln 2 rfl hL1 rfl ?_
    refine f_s [fi (1), fi (1), .ref 45, fi (wo m 2)] rfl rfl ?_
    refine f_iadd rfl ?_
    refine b_eq (x := 2) (by decide) ?_
    refine m_aa sr45 rfl hw1 (by omega) (by omega) (by decide) ?_
    refine f_iln 3 rfl hL1 rfl ?_
    refine f_il 0 rfl hL1 rfl ?_
    refine f_s [fi (-1), fi (iS (1) (2)), fi (s), .ref 48, fi (wo m 2)] rfl rfl ?_
    refine b_ixor rfl ?_
    refine b_iand rfl ?_
    refine m_ia sa48 (Bt m 2 (iA (s) (iX (iS (1) (2)) (-1)))) rfl hw1 hm1 (by omega) (by omega) (by decide) jb ?_
    refine f_iadd rfl ?_
    exact f_ret1 rfl ⟨by rw [show wF m 1 s 2 = wo m 2 + Bt m 2 (iA (s) (iX (iS (1) (2)) (-1))) from if_pos (by rw [decide_eq_true c1] at bk9; have := bk9.symm; rw [Bool.and_eq_true] at this; exact this)], hw1, hm1⟩
  · have c1 : ¬ (¬ (iA (iA (s) (fsC m 1)) (iS (1) (2)) : Int) = (0 : Int)) := c1
    refine f_bipush (n := -9) rfl (by decide) ?_
    exact f_ret1 rfl ⟨by rw [show wF m 1 s 2 = -9 from if_neg (fun z => by rw [decide_eq_false c1] at bk9; have y : (tB s 2 && tB (fsC m 1) 2) = true := (by rw [Bool.and_eq_true]; exact z); rw [← bk9] at y; cases y)], hw, hm⟩)
theorem t127_14 {m m' : Nat → Nat → Int} (hn : 0 ≤ m 3 5 ∧ m 3 5 ≤ 4) (hv : ∀ k : Nat, 0 ≤ wo m (k : Int) ∧ wo m (k : Int) ≤ 9) (hn' : m' 3 5 = m 3 5) (h5 : ∀ k, m' 5 k = m 5 k) (hB : ∀ j : Nat, j < 16 → m' 48 j = Bt m 2 (j : Int)) (hF : m' 52 1 = fsC m 1) {s : Int} (hs : 0 ≤ s ∧ s ≤ 15) : h_M 127 [.ref 44, fi (1), fi (s), fi (4)] m' (some (fi (wF m 1 s 3))) m' := h_M_of (R := ev_r127) rfl (fun hc hw hm => by
  have hL : f_L (lv_args 0 [.ref 44, fi (1), fi (s), fi (4)]) [(0, .ref 44), (1, fi (1)), (2, fi (s)), (3, fi (4))] := f_L_of rfl
  generalize lv_args 0 [.ref 44, fi (1), fi (s), fi (4)] = L at hL
  show x_W none (1, 0, 5, 3, 6, 2, 42, 0, 0, ev_t127) 0 L [] hc 0 0 _
  have hR := gi_R hm
  refine f_iln 1 rfl hL rfl ?_
  refine f_if rfl (by decide) (fun c_9 => absurd (show (1 : Int) < (0 : Int) from c_9) (by decide)) (fun _ => ?_)
  refine f_iln 1 rfl hL rfl ?_
  refine f_s [fi (5), fi (1)] rfl rfl ?_
  refine f_ic rfl (by decide) (by decide) (fun c_9 => absurd (show (5 : Int) ≤ (1 : Int) from c_9) (by decide)) (fun _ => ?_)
  refine f_iln 2 rfl hL rfl ?_
  refine f_if rfl (by omega) (fun c_9 => absurd (show (s : Int) < (0 : Int) from c_9) (by omega)) (fun _ => ?_)
  refine f_iln 2 rfl hL rfl ?_
  refine f_bipush (n := 16) rfl (by decide) ?_
  refine f_ic rfl (by omega) (by decide) (fun _ => ?_) (fun c_9 => absurd (show (s : Int) < (16 : Int) from (by omega)) c_9)
  have F15 := fsC_15 hn 1
  have bk9 := (bit_k hs F15).2.2.2
  have s2 := s_15 (y := iX (iS (1) (3)) (-1)) hs
  have jb := hB (iA (s) (iX (iS (1) (3)) (-1))).toNat (by omega)
  rw [show (((iA (s) (iX (iS (1) (3)) (-1))).toNat : Nat) : Int) = iA (s) (iX (iS (1) (3)) (-1)) by omega] at jb
  refine f_iln 3 rfl hL rfl ?_
  refine f_if rfl (by decide) (fun _ => ?_) (fun c_9 => absurd (show ¬ (4 : Int) = (0 : Int) from (by decide)) c_9)
  refine f_s [fi (1)] rfl rfl ?_
  refine f_iln 3 rfl hL rfl ?_
  refine f_s [fi (1), fi (4), fi (1)] rfl rfl ?_
  refine f_isub rfl ?_
  refine b_eq (x := 3) (by decide) ?_
  refine b_ishl rfl ?_
  refine f_ist [(4, fi (iS (1) (3))), (0, .ref 44), (1, fi (1)), (2, fi (s)), (3, fi (4))] rfl (by decide) hL rfl (fun L1 hL1 => ?_)
  refine f_iln 3 rfl hL1 rfl ?_
  refine f_aln 1 rfl hL1 rfl ?_
  refine m_gfr so44 rfl hw rfl (by decide) ?_
  refine f_iln 2 rfl hL1 rfl ?_
  refine m_ia sa52 (fsC m 1) rfl hw hm (by omega) (by omega) (by decide) hF ?_
  refine b_iand rfl ?_
  refine f_il 0 rfl hL1 rfl ?_
  refine b_iand rfl ?_
  refine f_if rfl iA_r (fun c1 => ?_) (fun c1 => ?_)
  · have c1 : ¬ (iA (iA (s) (fsC m 1)) (iS (1) (3)) : Int) = (0 : Int) := c1
    refine f_aln 1 rfl hL1 rfl ?_
    refine m_gfr so44 rfl hw rfl (by decide) ?_
    refine f_iln 4 rfl hL1 rfl ?_
    refine f_s [fi (1), fi (4), .ref 3] rfl rfl ?_
    refine f_isub rfl ?_
    refine b_eq (x := 3) (by decide) ?_
    have t9 := t42 (m := m') (x := 3) (by rw [hn']; exact hn) (by decide)
    rw [wo_q hn' h5] at t9
    refine m_k1 t9 hw hm rfl rfl rfl (m_ar so3 hw rfl) rfl (fun hc1 hw1 hm1 => ?_)
    refine f_aln 1 rfl hL1 rfl ?_
    refine m_gfr so44 rfl hw1 rfl (by decide) ?_
    refine f_iln 2 rfl hL1 rfl ?_
    refine f_s [fi (1), fi (1), .ref 45, fi (wo m 3)] rfl rfl ?_
    refine f_iadd rfl ?_
    refine b_eq (x := 2) (by decide) ?_
    refine m_aa sr45 rfl hw1 (by omega) (by omega) (by decide) ?_
    refine f_iln 3 rfl hL1 rfl ?_
    refine f_il 0 rfl hL1 rfl ?_
    refine f_s [fi (-1), fi (iS (1) (3)), fi (s), .ref 48, fi (wo m 3)] rfl rfl ?_
    refine b_ixor rfl ?_
    refine b_iand rfl ?_
    refine m_ia sa48 (Bt m 2 (iA (s) (iX (iS (1) (3)) (-1)))) rfl hw1 hm1 (by omega) (by omega) (by decide) jb ?_
    refine f_iadd rfl ?_
    exact f_ret1 rfl ⟨by rw [show wF m 1 s 3 = wo m 3 + Bt m 2 (iA (s) (iX (iS (1) (3)) (-1))) from if_pos (by rw [decide_eq_true c1] at bk9; have := bk9.symm; rw [Bool.and_eq_true] at this; exact this)], hw1, hm1⟩
  · have c1 : ¬ (¬ (iA (iA (s) (fsC m 1)) (iS (1) (3)) : Int) = (0 : Int)) := c1
    refine f_bipush (n := -9) rfl (by decide) ?_
    exact f_ret1 rfl ⟨by rw [show wF m 1 s 3 = -9 from if_neg (fun z => by rw [decide_eq_false c1] at bk9; have y : (tB s 3 && tB (fsC m 1) 3) = true := (by rw [Bool.and_eq_true]; exact z); rw [← bk9] at y; cases y)], hw, hm⟩)
theorem t128_1 {m m' : Nat → Nat → Int} (hn : 0 ≤ m 3 5 ∧ m 3 5 ≤ 4) (hv : ∀ k : Nat, 0 ≤ wo m (k : Int) ∧ wo m (k : Int) ≤ 9) (hn' : m' 3 5 = m 3 5) (h5 : ∀ k, m' 5 k = m 5 k) (hB : ∀ j : Nat, j < 16 → m' 48 j = Bt m 2 (j : Int)) (hF : m' 52 1 = fsC m 1) {s : Int} (hs : 0 ≤ s ∧ s ≤ 15) : h_M 128 [.ref 44, fi (1), fi (s)] m' (some (fi (Bt m 1 s))) m' := h_M_of (R := ev_r128) rfl (fun hc hw hm => by
  have hL : f_L (lv_args 0 [.ref 44, fi (1), fi (s)]) [(0, .ref 44), (1, fi (1)), (2, fi (s))] := f_L_of rfl
  generalize lv_args 0 [.ref 44, fi (1), fi (s)] = L at hL
  show x_W none (1, 0, 5, 2, 6, 3, 66, 0, 0, ev_t128) 0 L [] hc 0 0 _
  have hR := gi_R hm
  have r0 := Bt_r hv 2 s
  have r1 := wF_r hv 1 s 0
  have r2 := wF_r hv 1 s 1
  have r3 := wF_r hv 1 s 2
  have r4 := wF_r hv 1 s 3
  refine f_s [fi (0)] rfl rfl ?_
  refine f_istn [(3, fi (0)), (0, .ref 44), (1, fi (1)), (2, fi (s))] rfl (by decide) hL rfl (fun L1 hL1 => ?_)
  refine f_s [fi (0)] rfl rfl ?_
  refine f_ist [(4, fi (0)), (3, fi (0)), (0, .ref 44), (1, fi (1)), (2, fi (s))] rfl (by decide) hL1 rfl (fun L2 hL2 => ?_)
  refine f_il 0 rfl hL2 rfl ?_
  refine f_s [fi (4), fi (0)] rfl rfl ?_
  refine f_ic rfl (by decide) (by decide) (fun c_9 => absurd (show (4 : Int) < (0 : Int) from c_9) (by decide)) (fun _ => ?_)
  refine f_iln 1 rfl hL2 rfl ?_
  refine f_aln 2 rfl hL2 rfl ?_
  refine f_iln 3 rfl hL2 rfl ?_
  refine f_iln 4 rfl hL2 rfl ?_
  refine f_il 0 rfl hL2 rfl ?_
  refine m_k1 (t127_10 hn hv hn' h5 hB hF hs) hw hm rfl rfl rfl (m_ar so44 hw rfl) rfl (fun hc1 hw1 hm1 => ?_)
  refine m_k1 (t106 (x := 0) (y := Bt m 2 s) (by omega) (by omega)) hw1 hm1 rfl rfl rfl rfl rfl (fun hc2 hw2 hm2 => ?_)
  refine f_istn [(3, fi (max (0) (Bt m 2 s))), (4, fi (0)), (0, .ref 44), (1, fi (1)), (2, fi (s))] rfl (by decide) hL2 rfl (fun L3 hL3 => ?_)
  refine f_inc 1 [(4, fi (1)), (3, fi (max (0) (Bt m 2 s))), (0, .ref 44), (1, fi (1)), (2, fi (s))] rfl (by decide) hL3 rfl rfl (fun L4 hL4 => ?_)
  refine f_goto rfl ?_
  refine f_il 0 rfl hL4 rfl ?_
  refine f_s [fi (4), fi (1)] rfl rfl ?_
  refine f_ic rfl (by decide) (by decide) (fun c_9 => absurd (show (4 : Int) < (1 : Int) from c_9) (by decide)) (fun _ => ?_)
  refine f_iln 1 rfl hL4 rfl ?_
  refine f_aln 2 rfl hL4 rfl ?_
  refine f_iln 3 rfl hL4 rfl ?_
  refine f_iln 4 rfl hL4 rfl ?_
  refine f_il 0 rfl hL4 rfl ?_
  refine m_k1 (t127_11 hn hv hn' h5 hB hF hs) hw2 hm2 rfl rfl rfl (m_ar so44 hw2 rfl) rfl (fun hc3 hw3 hm3 => ?_)
  refine m_k1 (t106 (x := max (0) (Bt m 2 s)) (y := wF m 1 s 0) (by omega) (by omega)) hw3 hm3 rfl rfl rfl rfl rfl (fun hc4 hw4 hm4 => ?_)
  refine f_istn [(3, fi (max (max (0) (Bt m 2 s)) (wF m 1 s 0))), (4, fi (1)), (0, .ref 44), (1, fi (1)), (2, fi (s))] rfl (by decide) hL4 rfl (fun L5 hL5 => ?_)
  refine f_inc 1 [(4, fi (2)), (3, fi (max (max (0) (Bt m 2 s)) (wF m 1 s 0))), (0, .ref 44), (1, fi (1)), (2, fi (s))] rfl (by decide) hL5 rfl rfl (fun L6 hL6 => ?_)
  refine f_goto rfl ?_
  refine f_il 0 rfl hL6 rfl ?_
  refine f_s [fi (4), fi (2)] rfl rfl ?_
  refine f_ic rfl (by decide) (by decide) (fun c_9 => absurd (show (4 : Int) < (2 : Int) from c_9) (by decide)) (fun _ => ?_)
  refine f_iln 1 rfl hL6 rfl ?_
  refine f_aln 2 rfl hL6 rfl ?_
  refine f_iln 3 rfl hL6 rfl ?_
  refine f_iln 4 rfl hL6 rfl ?_
  refine f_il 0 rfl hL6 rfl ?_
  refine m_k1 (t127_12 hn hv hn' h5 hB hF hs) hw4 hm4 rfl rfl rfl (m_ar so44 hw4 rfl) rfl (fun hc5 hw5 hm5 => ?_)
  refine m_k1 (t106 (x := max (max (0) (Bt m 2 s)) (wF m 1 s 0)) (y := wF m 1 s 1) (by omega) (by omega)) hw5 hm5 rfl rfl rfl rfl rfl (fun hc6 hw6 hm6 => ?_)
  refine f_istn [(3, fi (max (max (max (0) (Bt m 2 s)) (wF m 1 s 0)) (wF m 1 s 1))), (4, fi (2)), (0, .ref 44), (1, fi (1)), (2, fi (s))] rfl (by decide) hL6 rfl (fun L7 hL7 => ?_)
  refine f_inc 1 [(4, fi (3)), (3, fi (max (max (max (0) (Bt m 2 s)) (wF m 1 s 0)) (wF m 1 s 1))), (0, .ref 44), (1, fi (1)), (2, fi (s))] rfl (by decide) hL7 rfl rfl (fun L8 hL8 => ?_)
  refine f_goto rfl ?_
  refine f_il 0 rfl hL8 rfl ?_
  refine f_s [fi (4), fi (3)] rfl rfl ?_
  refine f_ic rfl (by decide) (by decide) (fun c_9 => absurd (show (4 : Int) < (3 : Int) from c_9) (by decide)) (fun _ => ?_)
  refine f_iln 1 rfl hL8 rfl ?_
  refine f_aln 2 rfl hL8 rfl ?_
  refine f_iln 3 rfl hL8 rfl ?_
  refine f_iln 4 rfl hL8 rfl ?_
  refine f_il 0 rfl hL8 rfl ?_
  refine m_k1 (t127_13 hn hv hn' h5 hB hF hs) hw6 hm6 rfl rfl rfl (m_ar so44 hw6 rfl) rfl (fun hc7 hw7 hm7 => ?_)
  refine m_k1 (t106 (x := max (max (max (0) (Bt m 2 s)) (wF m 1 s 0)) (wF m 1 s 1)) (y := wF m 1 s 2) (by omega) (by omega)) hw7 hm7 rfl rfl rfl rfl rfl (fun hc8 hw8 hm8 => ?_)
  refine f_istn [(3, fi (max (max (max (max (0) (Bt m 2 s)) (wF m 1 s 0)) (wF m 1 s 1)) (wF m 1 s 2))), (4, fi (3)), (0, .ref 44), (1, fi (1)), (2, fi (s))] rfl (by decide) hL8 rfl (fun L9 hL9 => ?_)
  refine f_inc 1 [(4, fi (4)), (3, fi (max (max (max (max (0) (Bt m 2 s)) (wF m 1 s 0)) (wF m 1 s 1)) (wF m 1 s 2))), (0, .ref 44), (1, fi (1)), (2, fi (s))] rfl (by decide) hL9 rfl rfl (fun L10 hL10 => ?_)
  refine f_goto rfl ?_
  refine f_il 0 rfl hL10 rfl ?_
  refine f_s [fi (4), fi (4)] rfl rfl ?_
  refine f_ic rfl (by decide) (by decide) (fun c_9 => absurd (show (4 : Int) < (4 : Int) from c_9) (by decide)) (fun _ => ?_)
  refine f_iln 1 rfl hL10 rfl ?_
  refine f_aln 2 rfl hL10 rfl ?_
  refine f_iln 3 rfl hL10 rfl ?_
  refine f_iln 4 rfl hL10 rfl ?_
  refine f_il 0 rfl hL10 rfl ?_
  refine m_k1 (t127_14 hn hv hn' h5 hB hF hs) hw8 hm8 rfl rfl rfl (m_ar so44 hw8 rfl) rfl (fun hc9 hw9 hm9 => ?_)
  refine m_k1 (t106 (x := max (max (max (max (0) (Bt m 2 s)) (wF m 1 s 0)) (wF m 1 s 1)) (wF m 1 s 2)) (y := wF m 1 s 3) (by omega) (by omega)) hw9 hm9 rfl rfl rfl rfl rfl (fun hc10 hw10 hm10 => ?_)
  refine f_istn [(3, fi (max (max (max (max (max (0) (Bt m 2 s)) (wF m 1 s 0)) (wF m 1 s 1)) (wF m 1 s 2)) (wF m 1 s 3))), (4, fi (4)), (0, .ref 44), (1, fi (1)), (2, fi (s))] rfl (by decide) hL10 rfl (fun L11 hL11 => ?_)
  refine f_inc 1 [(4, fi (5)), (3, fi (max (max (max (max (max (0) (Bt m 2 s)) (wF m 1 s 0)) (wF m 1 s 1)) (wF m 1 s 2)) (wF m 1 s 3))), (0, .ref 44), (1, fi (1)), (2, fi (s))] rfl (by decide) hL11 rfl rfl (fun L12 hL12 => ?_)
  refine f_goto rfl ?_
  refine f_il 0 rfl hL12 rfl ?_
  refine f_s [fi (4), fi (5)] rfl rfl ?_
  refine f_ic rfl (by decide) (by decide) (fun _ => ?_) (fun c_9 => absurd (show (4 : Int) < (5 : Int) from (by decide)) c_9)
  refine f_iln 1 rfl hL12 rfl ?_
  exact f_ret1 rfl ⟨by rw [show max (max (max (max (max (0) (Bt m 2 s)) (wF m 1 s 0)) (wF m 1 s 1)) (wF m 1 s 2)) (wF m 1 s 3) = Bt m 1 s from best_m (by decide) hs], hw10, hm10⟩)
theorem t130_1 {m m' : Nat → Nat → Int} (hn : 0 ≤ m 3 5 ∧ m 3 5 ≤ 4) (hv : ∀ k : Nat, 0 ≤ wo m (k : Int) ∧ wo m (k : Int) ≤ 9) (hn' : m' 3 5 = m 3 5) (h5 : ∀ k, m' 5 k = m 5 k) (hB : ∀ j : Nat, j < 16 → m' 48 j = Bt m 2 (j : Int)) (hF : m' 52 1 = fsC m 1) {s : Int} (hs : 0 ≤ s ∧ s ≤ 15) : h_M 130 [.ref 44, fi (1), fi (s)] m' (some (fi ((gd (vW m) (FW m 1) (LsF (FW m) 2 3) (ind s) : Int)))) m' := h_M_of (R := ev_r130) rfl (fun hc hw hm => by
  have hL : f_L (lv_args 0 [.ref 44, fi (1), fi (s)]) [(0, .ref 44), (1, fi (1)), (2, fi (s))] := f_L_of rfl
  generalize lv_args 0 [.ref 44, fi (1), fi (s)] = L at hL
  show x_W none (1, 0, 5, 2, 6, 4, 90, 0, 0, ev_t130) 0 L [] hc 0 0 _
  have hR := gi_R hm
  have r0 := Bt_r hv 2 s
  have r1 := wF_r hv 1 s 0
  have r2 := wF_r hv 1 s 1
  have r3 := wF_r hv 1 s 2
  have r4 := wF_r hv 1 s 3
  have r5 := Bt_r hv 1 s
  have eB : hg (vW m) (FW m 1 :: LsF (FW m) 2 3) (ind s) = Bt m 1 s := rfl
  have eN : hg (vW m) (LsF (FW m) 2 3) (ind s) = Bt m 2 s := rfl
  have gk9 : ∀ k : Nat, (gcB (vW m) (FW m 1) (LsF (FW m) 2 3) (ind s) k = true ↔ wF m 1 s k = Bt m 1 s) := fun k => by
    rcases wF_k (m := m) 1 hs (k := k) with ⟨a1, a2, a3⟩ | ⟨a1, a2⟩
    · unfold gcB
      rw [a1, decide_eq_true a2, Bool.true_and, Bool.true_and, decide_eq_true_iff, eB, a3]
    · refine ⟨fun z => absurd ⟨(gcB_t z).1, (gcB_t z).2.1⟩ a1, fun z => ?_⟩
      rw [a2] at z
      omega
  refine f_aln 0 rfl hL rfl ?_
  refine f_iln 1 rfl hL rfl ?_
  refine f_iln 2 rfl hL rfl ?_
  refine m_k1 (t128_1 hn hv hn' h5 hB hF hs) hw hm rfl rfl rfl (m_ar so44 hw rfl) rfl (fun hc1 hw1 hm1 => ?_)
  refine f_istn [(3, fi (Bt m 1 s)), (0, .ref 44), (1, fi (1)), (2, fi (s))] rfl (by decide) hL rfl (fun L1 hL1 => ?_)
  refine f_s [fi (0)] rfl rfl ?_
  refine f_ist [(4, fi (0)), (3, fi (Bt m 1 s)), (0, .ref 44), (1, fi (1)), (2, fi (s))] rfl (by decide) hL1 rfl (fun L2 hL2 => ?_)
  refine f_il 0 rfl hL2 rfl ?_
  refine f_s [fi (4), fi (0)] rfl rfl ?_
  refine f_ic rfl (by decide) (by decide) (fun c_9 => absurd (show (4 : Int) < (0 : Int) from c_9) (by decide)) (fun _ => ?_)
  refine f_aln 2 rfl hL2 rfl ?_
  refine f_iln 3 rfl hL2 rfl ?_
  refine f_iln 4 rfl hL2 rfl ?_
  refine f_il 0 rfl hL2 rfl ?_
  refine m_k1 (t127_10 hn hv hn' h5 hB hF hs) hw1 hm1 rfl rfl rfl (m_ar so44 hw1 rfl) rfl (fun hc2 hw2 hm2 => ?_)
  refine f_iln 1 rfl hL2 rfl ?_
  refine f_ic rfl (by omega) (by omega) (fun d0 => ?_) (fun d0 => ?_)
  · have d0 : ¬ (Bt m 2 s : Int) = (Bt m 1 s : Int) := d0
    refine f_inc 0 [(4, fi (1)), (3, fi (Bt m 1 s)), (0, .ref 44), (1, fi (1)), (2, fi (s))] rfl (by decide) hL2 rfl rfl (fun L3 hL3 => ?_)
    refine f_goto rfl ?_
    refine f_il 0 rfl hL3 rfl ?_
    refine f_s [fi (4), fi (1)] rfl rfl ?_
    refine f_ic rfl (by decide) (by decide) (fun c_9 => absurd (show (4 : Int) < (1 : Int) from c_9) (by decide)) (fun _ => ?_)
    refine f_aln 2 rfl hL3 rfl ?_
    refine f_iln 3 rfl hL3 rfl ?_
    refine f_iln 4 rfl hL3 rfl ?_
    refine f_il 0 rfl hL3 rfl ?_
    refine m_k1 (t127_11 hn hv hn' h5 hB hF hs) hw2 hm2 rfl rfl rfl (m_ar so44 hw2 rfl) rfl (fun hc3 hw3 hm3 => ?_)
    refine f_iln 1 rfl hL3 rfl ?_
    refine f_ic rfl (by omega) (by omega) (fun d1 => ?_) (fun d1 => ?_)
    · have d1 : ¬ (wF m 1 s 0 : Int) = (Bt m 1 s : Int) := d1
      refine f_inc 0 [(4, fi (2)), (3, fi (Bt m 1 s)), (0, .ref 44), (1, fi (1)), (2, fi (s))] rfl (by decide) hL3 rfl rfl (fun L4 hL4 => ?_)
      refine f_goto rfl ?_
      refine f_il 0 rfl hL4 rfl ?_
      refine f_s [fi (4), fi (2)] rfl rfl ?_
      refine f_ic rfl (by decide) (by decide) (fun c_9 => absurd (show (4 : Int) < (2 : Int) from c_9) (by decide)) (fun _ => ?_)
      refine f_aln 2 rfl hL4 rfl ?_
      refine f_iln 3 rfl hL4 rfl ?_
      refine f_iln 4 rfl hL4 rfl ?_
      refine f_il 0 rfl hL4 rfl ?_
      refine m_k1 (t127_12 hn hv hn' h5 hB hF hs) hw3 hm3 rfl rfl rfl (m_ar so44 hw3 rfl) rfl (fun hc4 hw4 hm4 => ?_)
      refine f_iln 1 rfl hL4 rfl ?_
      refine f_ic rfl (by omega) (by omega) (fun d2 => ?_) (fun d2 => ?_)
      · have d2 : ¬ (wF m 1 s 1 : Int) = (Bt m 1 s : Int) := d2
        refine f_inc 0 [(4, fi (3)), (3, fi (Bt m 1 s)), (0, .ref 44), (1, fi (1)), (2, fi (s))] rfl (by decide) hL4 rfl rfl (fun L5 hL5 => ?_)
        refine f_goto rfl ?_
        refine f_il 0 rfl hL5 rfl ?_
        refine f_s [fi (4), fi (3)] rfl rfl ?_
        refine f_ic rfl (by decide) (by decide) (fun c_9 => absurd (show (4 : Int) < (3 : Int) from c_9) (by decide)) (fun _ => ?_)
        refine f_aln 2 rfl hL5 rfl ?_
        refine f_iln 3 rfl hL5 rfl ?_
        refine f_iln 4 rfl hL5 rfl ?_
        refine f_il 0 rfl hL5 rfl ?_
        refine m_k1 (t127_13 hn hv hn' h5 hB hF hs) hw4 hm4 rfl rfl rfl (m_ar so44 hw4 rfl) rfl (fun hc5 hw5 hm5 => ?_)
        refine f_iln 1 rfl hL5 rfl ?_
        refine f_ic rfl (by omega) (by omega) (fun d3 => ?_) (fun d3 => ?_)
        · have d3 : ¬ (wF m 1 s 2 : Int) = (Bt m 1 s : Int) := d3
          refine f_inc 0 [(4, fi (4)), (3, fi (Bt m 1 s)), (0, .ref 44), (1, fi (1)), (2, fi (s))] rfl (by decide) hL5 rfl rfl (fun L6 hL6 => ?_)
          refine f_goto rfl ?_
          refine f_il 0 rfl hL6 rfl ?_
          refine f_s [fi (4), fi (4)] rfl rfl ?_
          refine f_ic rfl (by decide) (by decide) (fun c_9 => absurd (show (4 : Int) < (4 : Int) from c_9) (by decide)) (fun _ => ?_)
          refine f_aln 2 rfl hL6 rfl ?_
          refine f_iln 3 rfl hL6 rfl ?_
          refine f_iln 4 rfl hL6 rfl ?_
          refine f_il 0 rfl hL6 rfl ?_
          refine m_k1 (t127_14 hn hv hn' h5 hB hF hs) hw5 hm5 rfl rfl rfl (m_ar so44 hw5 rfl) rfl (fun hc6 hw6 hm6 => ?_)
          refine f_iln 1 rfl hL6 rfl ?_
          refine f_ic rfl (by omega) (by omega) (fun d4 => ?_) (fun d4 => ?_)
          · have d4 : ¬ (wF m 1 s 3 : Int) = (Bt m 1 s : Int) := d4
            refine f_inc 0 [(4, fi (5)), (3, fi (Bt m 1 s)), (0, .ref 44), (1, fi (1)), (2, fi (s))] rfl (by decide) hL6 rfl rfl (fun L7 hL7 => ?_)
            refine f_goto rfl ?_
            refine f_il 0 rfl hL7 rfl ?_
            refine f_s [fi (4), fi (5)] rfl rfl ?_
            refine f_ic rfl (by decide) (by decide) (fun _ => ?_) (fun c_9 => absurd (show (4 : Int) < (5 : Int) from (by decide)) c_9)
            refine f_s [fi (0)] rfl rfl ?_
            have e9 : gd (vW m) (FW m 1) (LsF (FW m) 2 3) (ind s) = 0 := by
              unfold gd
              rw [eB, eN, if_neg d0, if_neg (fun z => d1 ((gk9 0).mp z)), if_neg (fun z => d2 ((gk9 1).mp z)), if_neg (fun z => d3 ((gk9 2).mp z)), if_neg (fun z => d4 ((gk9 3).mp z))]
            exact f_ret1 rfl ⟨by rw [e9]; rfl, hw6, hm6⟩
          · have d4 : ¬ (¬ (wF m 1 s 3 : Int) = (Bt m 1 s : Int)) := d4
            have d4 : wF m 1 s 3 = Bt m 1 s := Classical.byContradiction d4
            refine f_il 0 rfl hL6 rfl ?_
            have e9 : gd (vW m) (FW m 1) (LsF (FW m) 2 3) (ind s) = 4 := by
              unfold gd
              rw [eB, eN, if_neg d0, if_neg (fun z => d1 ((gk9 0).mp z)), if_neg (fun z => d2 ((gk9 1).mp z)), if_neg (fun z => d3 ((gk9 2).mp z)), if_pos ((gk9 3).mpr d4)]
            exact f_ret1 rfl ⟨by rw [e9]; rfl, hw6, hm6⟩
        · have d3 : ¬ (¬ (wF m 1 s 2 : Int) = (Bt m 1 s : Int)) := d3
          have d3 : wF m 1 s 2 = Bt m 1 s := Classical.byContradiction d3
          refine f_il 0 rfl hL5 rfl ?_
          have e9 : gd (vW m) (FW m 1) (LsF (FW m) 2 3) (ind s) = 3 := by
            unfold gd
            rw [eB, eN, if_neg d0, if_neg (fun z => d1 ((gk9 0).mp z)), if_neg (fun z => d2 ((gk9 1).mp z)), if_pos ((gk9 2).mpr d3)]
          exact f_ret1 rfl ⟨by rw [e9]; rfl, hw5, hm5⟩
      · have d2 : ¬ (¬ (wF m 1 s 1 : Int) = (Bt m 1 s : Int)) := d2
        have d2 : wF m 1 s 1 = Bt m 1 s := Classical.byContradiction d2
        refine f_il 0 rfl hL4 rfl ?_
        have e9 : gd (vW m) (FW m 1) (LsF (FW m) 2 3) (ind s) = 2 := by
          unfold gd
          rw [eB, eN, if_neg d0, if_neg (fun z => d1 ((gk9 0).mp z)), if_pos ((gk9 1).mpr d2)]
        exact f_ret1 rfl ⟨by rw [e9]; rfl, hw4, hm4⟩
    · have d1 : ¬ (¬ (wF m 1 s 0 : Int) = (Bt m 1 s : Int)) := d1
      have d1 : wF m 1 s 0 = Bt m 1 s := Classical.byContradiction d1
      refine f_il 0 rfl hL3 rfl ?_
      have e9 : gd (vW m) (FW m 1) (LsF (FW m) 2 3) (ind s) = 1 := by
        unfold gd
        rw [eB, eN, if_neg d0, if_pos ((gk9 0).mpr d1)]
      exact f_ret1 rfl ⟨by rw [e9]; rfl, hw3, hm3⟩
  · have d0 : ¬ (¬ (Bt m 2 s : Int) = (Bt m 1 s : Int)) := d0
    have d0 : Bt m 2 s = Bt m 1 s := Classical.byContradiction d0
    refine f_il 0 rfl hL2 rfl ?_
    have e9 : gd (vW m) (FW m 1) (LsF (FW m) 2 3) (ind s) = 0 := by
      unfold gd
      rw [eB, eN, if_pos d0]
    exact f_ret1 rfl ⟨by rw [e9]; rfl, hw2, hm2⟩)
theorem t127_20 {m m' : Nat → Nat → Int} (hn : 0 ≤ m 3 5 ∧ m 3 5 ≤ 4) (hv : ∀ k : Nat, 0 ≤ wo m (k : Int) ∧ wo m (k : Int) ≤ 9) (hn' : m' 3 5 = m 3 5) (h5 : ∀ k, m' 5 k = m 5 k) (hB : ∀ j : Nat, j < 16 → m' 49 j = Bt m 3 (j : Int)) (hF : m' 52 2 = fsC m 2) {s : Int} (hs : 0 ≤ s ∧ s ≤ 15) : h_M 127 [.ref 44, fi (2), fi (s), fi (0)] m' (some (fi (Bt m 3 s))) m' := h_M_of (R := ev_r127) rfl (fun hc hw hm => by
  have hL : f_L (lv_args 0 [.ref 44, fi (2), fi (s), fi (0)]) [(0, .ref 44), (1, fi (2)), (2, fi (s)), (3, fi (0))] := f_L_of rfl
  generalize lv_args 0 [.ref 44, fi (2), fi (s), fi (0)] = L at hL
  show x_W none (1, 0, 5, 3, 6, 2, 42, 0, 0, ev_t127) 0 L [] hc 0 0 _
  have hR := gi_R hm
  refine f_iln 1 rfl hL rfl ?_
  refine f_if rfl (by decide) (fun c_9 => absurd (show (2 : Int) < (0 : Int) from c_9) (by decide)) (fun _ => ?_)
  refine f_iln 1 rfl hL rfl ?_
  refine f_s [fi (5), fi (2)] rfl rfl ?_
  refine f_ic rfl (by decide) (by decide) (fun c_9 => absurd (show (5 : Int) ≤ (2 : Int) from c_9) (by decide)) (fun _ => ?_)
  refine f_iln 2 rfl hL rfl ?_
  refine f_if rfl (by omega) (fun c_9 => absurd (show (s : Int) < (0 : Int) from c_9) (by omega)) (fun _ => ?_)
  refine f_iln 2 rfl hL rfl ?_
  refine f_bipush (n := 16) rfl (by decide) ?_
  refine f_ic rfl (by omega) (by decide) (fun _ => ?_) (fun c_9 => absurd (show (s : Int) < (16 : Int) from (by omega)) c_9)
  have jb := hB (s).toNat (by omega)
  rw [show (((s).toNat : Nat) : Int) = s by omega] at jb
  refine f_iln 3 rfl hL rfl ?_
  refine f_if rfl (by decide) (fun c_9 => absurd (show ¬ (0 : Int) = (0 : Int) from c_9) (by decide)) (fun _ => ?_)
  refine f_aln 0 rfl hL rfl ?_
  refine m_gfr so44 rfl hw rfl (by decide) ?_
  refine f_iln 1 rfl hL rfl ?_
  refine f_s [fi (1), fi (2), .ref 45] rfl rfl ?_
  refine f_iadd rfl ?_
  refine b_eq (x := 3) (by decide) ?_
  refine m_aa sr45 rfl hw (by omega) (by omega) (by decide) ?_
  refine f_iln 2 rfl hL rfl ?_
  refine m_ia sa49 (Bt m 3 s) rfl hw hm (by omega) (by omega) (by decide) jb ?_
  exact f_ret1 rfl ⟨rfl, hw, hm⟩)
theorem t127_21 {m m' : Nat → Nat → Int} (hn : 0 ≤ m 3 5 ∧ m 3 5 ≤ 4) (hv : ∀ k : Nat, 0 ≤ wo m (k : Int) ∧ wo m (k : Int) ≤ 9) (hn' : m' 3 5 = m 3 5) (h5 : ∀ k, m' 5 k = m 5 k) (hB : ∀ j : Nat, j < 16 → m' 49 j = Bt m 3 (j : Int)) (hF : m' 52 2 = fsC m 2) {s : Int} (hs : 0 ≤ s ∧ s ≤ 15) : h_M 127 [.ref 44, fi (2), fi (s), fi (1)] m' (some (fi (wF m 2 s 0))) m' := h_M_of (R := ev_r127) rfl (fun hc hw hm => by
  have hL : f_L (lv_args 0 [.ref 44, fi (2), fi (s), fi (1)]) [(0, .ref 44), (1, fi (2)), (2, fi (s)), (3, fi (1))] := f_L_of rfl
  generalize lv_args 0 [.ref 44, fi (2), fi (s), fi (1)] = L at hL
  show x_W none (1, 0, 5, 3, 6, 2, 42, 0, 0, ev_t127) 0 L [] hc 0 0 _
  have hR := gi_R hm
  refine f_iln 1 rfl hL rfl ?_
  refine f_if rfl (by decide) (fun c_9 => absurd (show (2 : Int) < (0 : Int) from c_9) (by decide)) (fun _ => ?_)
  refine f_iln 1 rfl hL rfl ?_
  refine f_s [fi (5), fi (2)] rfl rfl ?_
  refine f_ic rfl (by decide) (by decide) (fun c_9 => absurd (show (5 : Int) ≤ (2 : Int) from c_9) (by decide)) (fun _ => ?_)
  refine f_iln 2 rfl hL rfl ?_
  refine f_if rfl (by omega) (fun c_9 => absurd (show (s : Int) < (0 : Int) from c_9) (by omega)) (fun _ => ?_)
  refine f_iln 2 rfl hL rfl ?_
  refine f_bipush (n := 16) rfl (by decide) ?_
  refine f_ic rfl (by omega) (by decide) (fun _ => ?_) (fun c_9 => absurd (show (s : Int) < (16 : Int) from (by omega)) c_9)
  have F15 := fsC_15 hn 2
  have bk9 := (bit_k hs F15).1
  have s2 := s_15 (y := iX (iS (1) (0)) (-1)) hs
  have jb := hB (iA (s) (iX (iS (1) (0)) (-1))).toNat (by omega)
  rw [show (((iA (s) (iX (iS (1) (0)) (-1))).toNat : Nat) : Int) = iA (s) (iX (iS (1) (0)) (-1)) by omega] at jb
  refine f_iln 3 rfl hL rfl ?_
  refine f_if rfl (by decide) (fun _ => ?_) (fun c_9 => absurd (show ¬ (1 : Int) = (0 : Int) from (by decide)) c_9)
  refine f_s [fi (1)] rfl rfl ?_
  refine f_iln 3 rfl hL rfl ?_
  refine f_s [fi (1), fi (1), fi (1)] rfl rfl ?_
  refine f_isub rfl ?_
  refine b_eq (x := 0) (by decide) ?_
  refine b_ishl rfl ?_
  refine f_ist [(4, fi (iS (1) (0))), (0, .ref 44), (1, fi (2)), (2, fi (s)), (3, fi (1))] rfl (by decide) hL rfl (fun L1 hL1 => ?_)
  refine f_iln 3 rfl hL1 rfl ?_
  refine f_aln 1 rfl hL1 rfl ?_
  refine m_gfr so44 rfl hw rfl (by decide) ?_
  refine f_iln 2 rfl hL1 rfl ?_
  refine m_ia sa52 (fsC m 2) rfl hw hm (by omega) (by omega) (by decide) hF ?_
  refine b_iand rfl ?_
  refine f_il 0 rfl hL1 rfl ?_
  refine b_iand rfl ?_
  refine f_if rfl iA_r (fun c1 => ?_) (fun c1 => ?_)
  · have c1 : ¬ (iA (iA (s) (fsC m 2)) (iS (1) (0)) : Int) = (0 : Int) := c1
    refine f_aln 1 rfl hL1 rfl ?_
    refine m_gfr so44 rfl hw rfl (by decide) ?_
    refine f_iln 4 rfl hL1 rfl ?_
    refine f_s [fi (1), fi (1), .ref 3] rfl rfl ?_
    refine f_isub rfl ?_
    refine b_eq (x := 0) (by decide) ?_
    have t9 := t42 (m := m') (x := 0) (by rw [hn']; exact hn) (by decide)
    rw [wo_q hn' h5] at t9
    refine m_k1 t9 hw hm rfl rfl rfl (m_ar so3 hw rfl) rfl (fun hc1 hw1 hm1 => ?_)
    refine f_aln 1 rfl hL1 rfl ?_
    refine m_gfr so44 rfl hw1 rfl (by decide) ?_
    refine f_iln 2 rfl hL1 rfl ?_
    refine f_s [fi (1), fi (2), .ref 45, fi (wo m 0)] rfl rfl ?_
    refine f_iadd rfl ?_
    refine b_eq (x := 3) (by decide) ?_
    refine m_aa sr45 rfl hw1 (by omega) (by omega) (by decide) ?_
    refine f_iln 3 rfl hL1 rfl ?_
    refine f_il 0 rfl hL1 rfl ?_
    refine f_s [fi (-1), fi (iS (1) (0)), fi (s), .ref 49, fi (wo m 0)] rfl rfl ?_
    refine b_ixor rfl ?_
    refine b_iand rfl ?_
    refine m_ia sa49 (Bt m 3 (iA (s) (iX (iS (1) (0)) (-1)))) rfl hw1 hm1 (by omega) (by omega) (by decide) jb ?_
    refine f_iadd rfl ?_
    exact f_ret1 rfl ⟨by rw [show wF m 2 s 0 = wo m 0 + Bt m 3 (iA (s) (iX (iS (1) (0)) (-1))) from if_pos (by rw [decide_eq_true c1] at bk9; have := bk9.symm; rw [Bool.and_eq_true] at this; exact this)], hw1, hm1⟩
  · have c1 : ¬ (¬ (iA (iA (s) (fsC m 2)) (iS (1) (0)) : Int) = (0 : Int)) := c1
    refine f_bipush (n := -9) rfl (by decide) ?_
    exact f_ret1 rfl ⟨by rw [show wF m 2 s 0 = -9 from if_neg (fun z => by rw [decide_eq_false c1] at bk9; have y : (tB s 0 && tB (fsC m 2) 0) = true := (by rw [Bool.and_eq_true]; exact z); rw [← bk9] at y; cases y)], hw, hm⟩)
theorem t127_22 {m m' : Nat → Nat → Int} (hn : 0 ≤ m 3 5 ∧ m 3 5 ≤ 4) (hv : ∀ k : Nat, 0 ≤ wo m (k : Int) ∧ wo m (k : Int) ≤ 9) (hn' : m' 3 5 = m 3 5) (h5 : ∀ k, m' 5 k = m 5 k) (hB : ∀ j : Nat, j < 16 → m' 49 j = Bt m 3 (j : Int)) (hF : m' 52 2 = fsC m 2) {s : Int} (hs : 0 ≤ s ∧ s ≤ 15) : h_M 127 [.ref 44, fi (2), fi (s), fi (2)] m' (some (fi (wF m 2 s 1))) m' := h_M_of (R := ev_r127) rfl (fun hc hw hm => by
  have hL : f_L (lv_args 0 [.ref 44, fi (2), fi (s), fi (2)]) [(0, .ref 44), (1, fi (2)), (2, fi (s)), (3, fi (2))] := f_L_of rfl
  generalize lv_args 0 [.ref 44, fi (2), fi (s), fi (2)] = L at hL
  show x_W none (1, 0, 5, 3, 6, 2, 42, 0, 0, ev_t127) 0 L [] hc 0 0 _
  have hR := gi_R hm
  refine f_iln 1 rfl hL rfl ?_
  refine f_if rfl (by decide) (fun c_9 => absurd (show (2 : Int) < (0 : Int) from c_9) (by decide)) (fun _ => ?_)
  refine f_iln 1 rfl hL rfl ?_
  refine f_s [fi (5), fi (2)] rfl rfl ?_
  refine f_ic rfl (by decide) (by decide) (fun c_9 => absurd (show (5 : Int) ≤ (2 : Int) from c_9) (by decide)) (fun _ => ?_)
  refine f_iln 2 rfl hL rfl ?_
  refine f_if rfl (by omega) (fun c_9 => absurd (show (s : Int) < (0 : Int) from c_9) (by omega)) (fun _ => ?_)
  refine f_iln 2 rfl hL rfl ?_
  refine f_bipush (n := 16) rfl (by decide) ?_
  refine f_ic rfl (by omega) (by decide) (fun _ => ?_) (fun c_9 => absurd (show (s : Int) < (16 : Int) from (by omega)) c_9)
  have F15 := fsC_15 hn 2
  have bk9 := (bit_k hs F15).2.1
  have s2 := s_15 (y := iX (iS (1) (1)) (-1)) hs
  have jb := hB (iA (s) (iX (iS (1) (1)) (-1))).toNat (by omega)
  rw [show (((iA (s) (iX (iS (1) (1)) (-1))).toNat : Nat) : Int) = iA (s) (iX (iS (1) (1)) (-1)) by omega] at jb
  refine f_iln 3 rfl hL rfl ?_
  refine f_if rfl (by decide) (fun _ => ?_) (fun c_9 => absurd (show ¬ (2 : Int) = (0 : Int) from (by decide)) c_9)
  refine f_s [fi (1)] rfl rfl ?_
  refine f_iln 3 rfl hL rfl ?_
  refine f_s [fi (1), fi (2), fi (1)] rfl rfl ?_
  refine f_isub rfl ?_
  refine b_eq (x := 1) (by decide) ?_
  refine b_ishl rfl ?_
  refine f_ist [(4, fi (iS (1) (1))), (0, .ref 44), (1, fi (2)), (2, fi (s)), (3, fi (2))] rfl (by decide) hL rfl (fun L1 hL1 => ?_)
  refine f_iln 3 rfl hL1 rfl ?_
  refine f_aln 1 rfl hL1 rfl ?_
  refine m_gfr so44 rfl hw rfl (by decide) ?_
  refine f_iln 2 rfl hL1 rfl ?_
  refine m_ia sa52 (fsC m 2) rfl hw hm (by omega) (by omega) (by decide) hF ?_
  refine b_iand rfl ?_
  refine f_il 0 rfl hL1 rfl ?_
  refine b_iand rfl ?_
  refine f_if rfl iA_r (fun c1 => ?_) (fun c1 => ?_)
  · have c1 : ¬ (iA (iA (s) (fsC m 2)) (iS (1) (1)) : Int) = (0 : Int) := c1
    refine f_aln 1 rfl hL1 rfl ?_
    refine m_gfr so44 rfl hw rfl (by decide) ?_
    refine f_iln 4 rfl hL1 rfl ?_
    refine f_s [fi (1), fi (2), .ref 3] rfl rfl ?_
    refine f_isub rfl ?_
    refine b_eq (x := 1) (by decide) ?_
    have t9 := t42 (m := m') (x := 1) (by rw [hn']; exact hn) (by decide)
    rw [wo_q hn' h5] at t9
    refine m_k1 t9 hw hm rfl rfl rfl (m_ar so3 hw rfl) rfl (fun hc1 hw1 hm1 => ?_)
    refine f_aln 1 rfl hL1 rfl ?_
    refine m_gfr so44 rfl hw1 rfl (by decide) ?_
    refine f_iln 2 rfl hL1 rfl ?_
    refine f_s [fi (1), fi (2), .ref 45, fi (wo m 1)] rfl rfl ?_
    refine f_iadd rfl ?_
    refine b_eq (x := 3) (by decide) ?_
    refine m_aa sr45 rfl hw1 (by omega) (by omega) (by decide) ?_
    refine f_iln 3 rfl hL1 rfl ?_
    refine f_il 0 rfl hL1 rfl ?_
    refine f_s [fi (-1), fi (iS (1) (1)), fi (s), .ref 49, fi (wo m 1)] rfl rfl ?_
    refine b_ixor rfl ?_
    refine b_iand rfl ?_
    refine m_ia sa49 (Bt m 3 (iA (s) (iX (iS (1) (1)) (-1)))) rfl hw1 hm1 (by omega) (by omega) (by decide) jb ?_
    refine f_iadd rfl ?_
    exact f_ret1 rfl ⟨by rw [show wF m 2 s 1 = wo m 1 + Bt m 3 (iA (s) (iX (iS (1) (1)) (-1))) from if_pos (by rw [decide_eq_true c1] at bk9; have := bk9.symm; rw [Bool.and_eq_true] at this; exact this)], hw1, hm1⟩
  · have c1 : ¬ (¬ (iA (iA (s) (fsC m 2)) (iS (1) (1)) : Int) = (0 : Int)) := c1
    refine f_bipush (n := -9) rfl (by decide) ?_
    exact f_ret1 rfl ⟨by rw [show wF m 2 s 1 = -9 from if_neg (fun z => by rw [decide_eq_false c1] at bk9; have y : (tB s 1 && tB (fsC m 2) 1) = true := (by rw [Bool.and_eq_true]; exact z); rw [← bk9] at y; cases y)], hw, hm⟩)
theorem t127_23 {m m' : Nat → Nat → Int} (hn : 0 ≤ m 3 5 ∧ m 3 5 ≤ 4) (hv : ∀ k : Nat, 0 ≤ wo m (k : Int) ∧ wo m (k : Int) ≤ 9) (hn' : m' 3 5 = m 3 5) (h5 : ∀ k, m' 5 k = m 5 k) (hB : ∀ j : Nat, j < 16 → m' 49 j = Bt m 3 (j : Int)) (hF : m' 52 2 = fsC m 2) {s : Int} (hs : 0 ≤ s ∧ s ≤ 15) : h_M 127 [.ref 44, fi (2), fi (s), fi (3)] m' (some (fi (wF m 2 s 2))) m' := h_M_of (R := ev_r127) rfl (fun hc hw hm => by
  have hL : f_L (lv_args 0 [.ref 44, fi (2), fi (s), fi (3)]) [(0, .ref 44), (1, fi (2)), (2, fi (s)), (3, fi (3))] := f_L_of rfl
  generalize lv_args 0 [.ref 44, fi (2), fi (s), fi (3)] = L at hL
  show x_W none (1, 0, 5, 3, 6, 2, 42, 0, 0, ev_t127) 0 L [] hc 0 0 _
  have hR := gi_R hm
  refine f_iln 1 rfl hL rfl ?_
  refine f_if rfl (by decide) (fun c_9 => absurd (show (2 : Int) < (0 : Int) from c_9) (by decide)) (fun _ => ?_)
  refine f_iln 1 rfl hL rfl ?_
  refine f_s [fi (5), fi (2)] rfl rfl ?_
  refine f_ic rfl (by decide) (by decide) (fun c_9 => absurd (show (5 : Int) ≤ (2 : Int) from c_9) (by decide)) (fun _ => ?_)
  refine f_iln 2 rfl hL rfl ?_
  refine f_if rfl (by omega) (fun c_9 => absurd (show (s : Int) < (0 : Int) from c_9) (by omega)) (fun _ => ?_)
  refine f_iln 2 rfl hL rfl ?_
  refine f_bipush (n := 16) rfl (by decide) ?_
  refine f_ic rfl (by omega) (by decide) (fun _ => ?_) (fun c_9 => absurd (show (s : Int) < (16 : Int) from (by omega)) c_9)
  have F15 := fsC_15 hn 2
  have bk9 := (bit_k hs F15).2.2.1
  have s2 := s_15 (y := iX (iS (1) (2)) (-1)) hs
  have jb := hB (iA (s) (iX (iS (1) (2)) (-1))).toNat (by omega)
  rw [show (((iA (s) (iX (iS (1) (2)) (-1))).toNat : Nat) : Int) = iA (s) (iX (iS (1) (2)) (-1)) by omega] at jb
  refine f_iln 3 rfl hL rfl ?_
  refine f_if rfl (by decide) (fun _ => ?_) (fun c_9 => absurd (show ¬ (3 : Int) = (0 : Int) from (by decide)) c_9)
  refine f_s [fi (1)] rfl rfl ?_
  refine f_iln 3 rfl hL rfl ?_
  refine f_s [fi (1), fi (3), fi (1)] rfl rfl ?_
  refine f_isub rfl ?_
  refine b_eq (x := 2) (by decide) ?_
  refine b_ishl rfl ?_
  refine f_ist [(4, fi (iS (1) (2))), (0, .ref 44), (1, fi (2)), (2, fi (s)), (3, fi (3))] rfl (by decide) hL rfl (fun L1 hL1 => ?_)
  refine f_iln 3 rfl hL1 rfl ?_
  refine f_aln 1 rfl hL1 rfl ?_
  refine m_gfr so44 rfl hw rfl (by decide) ?_
  refine f_iln 2 rfl hL1 rfl ?_
  refine m_ia sa52 (fsC m 2) rfl hw hm (by omega) (by omega) (by decide) hF ?_
  refine b_iand rfl ?_
  refine f_il 0 rfl hL1 rfl ?_
  refine b_iand rfl ?_
  refine f_if rfl iA_r (fun c1 => ?_) (fun c1 => ?_)
  · have c1 : ¬ (iA (iA (s) (fsC m 2)) (iS (1) (2)) : Int) = (0 : Int) := c1
    refine f_aln 1 rfl hL1 rfl ?_
    refine m_gfr so44 rfl hw rfl (by decide) ?_
    refine f_iln 4 rfl hL1 rfl ?_
    refine f_s [fi (1), fi (3), .ref 3] rfl rfl ?_
    refine f_isub rfl ?_
    refine b_eq (x := 2) (by decide) ?_
    have t9 := t42 (m := m') (x := 2) (by rw [hn']; exact hn) (by decide)
    rw [wo_q hn' h5] at t9
    refine m_k1 t9 hw hm rfl rfl rfl (m_ar so3 hw rfl) rfl (fun hc1 hw1 hm1 => ?_)
    refine f_aln 1 rfl hL1 rfl ?_
    refine m_gfr so44 rfl hw1 rfl (by decide) ?_
    refine f_iln 2 rfl hL1 rfl ?_
    refine f_s [fi (1), fi (2), .ref 45, fi (wo m 2)] rfl rfl ?_
    refine f_iadd rfl ?_
    refine b_eq (x := 3) (by decide) ?_
    refine m_aa sr45 rfl hw1 (by omega) (by omega) (by decide) ?_
    refine f_iln 3 rfl hL1 rfl ?_
    refine f_il 0 rfl hL1 rfl ?_
    refine f_s [fi (-1), fi (iS (1) (2)), fi (s), .ref 49, fi (wo m 2)] rfl rfl ?_
    refine b_ixor rfl ?_
    refine b_iand rfl ?_
    refine m_ia sa49 (Bt m 3 (iA (s) (iX (iS (1) (2)) (-1)))) rfl hw1 hm1 (by omega) (by omega) (by decide) jb ?_
    refine f_iadd rfl ?_
    exact f_ret1 rfl ⟨by rw [show wF m 2 s 2 = wo m 2 + Bt m 3 (iA (s) (iX (iS (1) (2)) (-1))) from if_pos (by rw [decide_eq_true c1] at bk9; have := bk9.symm; rw [Bool.and_eq_true] at this; exact this)], hw1, hm1⟩
  · have c1 : ¬ (¬ (iA (iA (s) (fsC m 2)) (iS (1) (2)) : Int) = (0 : Int)) := c1
    refine f_bipush (n := -9) rfl (by decide) ?_
    exact f_ret1 rfl ⟨by rw [show wF m 2 s 2 = -9 from if_neg (fun z => by rw [decide_eq_false c1] at bk9; have y : (tB s 2 && tB (fsC m 2) 2) = true := (by rw [Bool.and_eq_true]; exact z); rw [← bk9] at y; cases y)], hw, hm⟩)
theorem t127_24 {m m' : Nat → Nat → Int} (hn : 0 ≤ m 3 5 ∧ m 3 5 ≤ 4) (hv : ∀ k : Nat, 0 ≤ wo m (k : Int) ∧ wo m (k : Int) ≤ 9) (hn' : m' 3 5 = m 3 5) (h5 : ∀ k, m' 5 k = m 5 k) (hB : ∀ j : Nat, j < 16 → m' 49 j = Bt m 3 (j : Int)) (hF : m' 52 2 = fsC m 2) {s : Int} (hs : 0 ≤ s ∧ s ≤ 15) : h_M 127 [.ref 44, fi (2), fi (s), fi (4)] m' (some (fi (wF m 2 s 3))) m' := h_M_of (R := ev_r127) rfl (fun hc hw hm => by
  have hL : f_L (lv_args 0 [.ref 44, fi (2), fi (s), fi (4)]) [(0, .ref 44), (1, fi (2)), (2, fi (s)), (3, fi (4))] := f_L_of rfl
  generalize lv_args 0 [.ref 44, fi (2), fi (s), fi (4)] = L at hL
  show x_W none (1, 0, 5, 3, 6, 2, 42, 0, 0, ev_t127) 0 L [] hc 0 0 _
  have hR := gi_R hm
  refine f_iln 1 rfl hL rfl ?_
  refine f_if rfl (by decide) (fun c_9 => absurd (show (2 : Int) < (0 : Int) from c_9) (by decide)) (fun _ => ?_)
  refine f_iln 1 rfl hL rfl ?_
  refine f_s [fi (5), fi (2)] rfl rfl ?_
  refine f_ic rfl (by decide) (by decide) (fun c_9 => absurd (show (5 : Int) ≤ (2 : Int) from c_9) (by decide)) (fun _ => ?_)
  refine f_iln 2 rfl hL rfl ?_
  refine f_if rfl (by omega) (fun c_9 => absurd (show (s : Int) < (0 : Int) from c_9) (by omega)) (fun _ => ?_)
  refine f_iln 2 rfl hL rfl ?_
  refine f_bipush (n := 16) rfl (by decide) ?_
  refine f_ic rfl (by omega) (by decide) (fun _ => ?_) (fun c_9 => absurd (show (s : Int) < (16 : Int) from (by omega)) c_9)
  have F15 := fsC_15 hn 2
  have bk9 := (bit_k hs F15).2.2.2
  have s2 := s_15 (y := iX (iS (1) (3)) (-1)) hs
  have jb := hB (iA (s) (iX (iS (1) (3)) (-1))).toNat (by omega)
  rw [show (((iA (s) (iX (iS (1) (3)) (-1))).toNat : Nat) : Int) = iA (s) (iX (iS (1) (3)) (-1)) by omega] at jb
  refine f_iln 3 rfl hL rfl ?_
  refine f_if rfl (by decide) (fun _ => ?_) (fun c_9 => absurd (show ¬ (4 : Int) = (0 : Int) from (by decide)) c_9)
  refine f_s [fi (1)] rfl rfl ?_
  refine f_iln 3 rfl hL rfl ?_
  refine f_s [fi (1), fi (4), fi (1)] rfl rfl ?_
  refine f_isub rfl ?_
  refine b_eq (x := 3) (by decide) ?_
  refine b_ishl rfl ?_
  refine f_ist [(4, fi (iS (1) (3))), (0, .ref 44), (1, fi (2)), (2, fi (s)), (3, fi (4))] rfl (by decide) hL rfl (fun L1 hL1 => ?_)
  refine f_iln 3 rfl hL1 rfl ?_
  refine f_aln 1 rfl hL1 rfl ?_
  refine m_gfr so44 rfl hw rfl (by decide) ?_
  refine f_iln 2 rfl hL1 rfl ?_
  refine m_ia sa52 (fsC m 2) rfl hw hm (by omega) (by omega) (by decide) hF ?_
  refine b_iand rfl ?_
  refine f_il 0 rfl hL1 rfl ?_
  refine b_iand rfl ?_
  refine f_if rfl iA_r (fun c1 => ?_) (fun c1 => ?_)
  · have c1 : ¬ (iA (iA (s) (fsC m 2)) (iS (1) (3)) : Int) = (0 : Int) := c1
    refine f_aln 1 rfl hL1 rfl ?_
    refine m_gfr so44 rfl hw rfl (by decide) ?_
    refine f_iln 4 rfl hL1 rfl ?_
    refine f_s [fi (1), fi (4), .ref 3] rfl rfl ?_
    refine f_isub rfl ?_
    refine b_eq (x := 3) (by decide) ?_
    have t9 := t42 (m := m') (x := 3) (by rw [hn']; exact hn) (by decide)
    rw [wo_q hn' h5] at t9
    refine m_k1 t9 hw hm rfl rfl rfl (m_ar so3 hw rfl) rfl (fun hc1 hw1 hm1 => ?_)
    refine f_aln 1 rfl hL1 rfl ?_
    refine m_gfr so44 rfl hw1 rfl (by decide) ?_
    refine f_iln 2 rfl hL1 rfl ?_
    refine f_s [fi (1), fi (2), .ref 45, fi (wo m 3)] rfl rfl ?_
    refine f_iadd rfl ?_
    refine b_eq (x := 3) (by decide) ?_
    refine m_aa sr45 rfl hw1 (by omega) (by omega) (by decide) ?_
    refine f_iln 3 rfl hL1 rfl ?_
    refine f_il 0 rfl hL1 rfl ?_
    refine f_s [fi (-1), fi (iS (1) (3)), fi (s), .ref 49, fi (wo m 3)] rfl rfl ?_
    refine b_ixor rfl ?_
    refine b_iand rfl ?_
    refine m_ia sa49 (Bt m 3 (iA (s) (iX (iS (1) (3)) (-1)))) rfl hw1 hm1 (by omega) (by omega) (by decide) jb ?_
    refine f_iadd rfl ?_
    exact f_ret1 rfl ⟨by rw [show wF m 2 s 3 = wo m 3 + Bt m 3 (iA (s) (iX (iS (1) (3)) (-1))) from if_pos (by rw [decide_eq_true c1] at bk9; have := bk9.symm; rw [Bool.and_eq_true] at this; exact this)], hw1, hm1⟩
  · have c1 : ¬ (¬ (iA (iA (s) (fsC m 2)) (iS (1) (3)) : Int) = (0 : Int)) := c1
    refine f_bipush (n := -9) rfl (by decide) ?_
    exact f_ret1 rfl ⟨by rw [show wF m 2 s 3 = -9 from if_neg (fun z => by rw [decide_eq_false c1] at bk9; have y : (tB s 3 && tB (fsC m 2) 3) = true := (by rw [Bool.and_eq_true]; exact z); rw [← bk9] at y; cases y)], hw, hm⟩)
theorem t128_2 {m m' : Nat → Nat → Int} (hn : 0 ≤ m 3 5 ∧ m 3 5 ≤ 4) (hv : ∀ k : Nat, 0 ≤ wo m (k : Int) ∧ wo m (k : Int) ≤ 9) (hn' : m' 3 5 = m 3 5) (h5 : ∀ k, m' 5 k = m 5 k) (hB : ∀ j : Nat, j < 16 → m' 49 j = Bt m 3 (j : Int)) (hF : m' 52 2 = fsC m 2) {s : Int} (hs : 0 ≤ s ∧ s ≤ 15) : h_M 128 [.ref 44, fi (2), fi (s)] m' (some (fi (Bt m 2 s))) m' := h_M_of (R := ev_r128) rfl (fun hc hw hm => by
  have hL : f_L (lv_args 0 [.ref 44, fi (2), fi (s)]) [(0, .ref 44), (1, fi (2)), (2, fi (s))] := f_L_of rfl
  generalize lv_args 0 [.ref 44, fi (2), fi (s)] = L at hL
  show x_W none (1, 0, 5, 2, 6, 3, 66, 0, 0, ev_t128) 0 L [] hc 0 0 _
  have hR := gi_R hm
  have r0 := Bt_r hv 3 s
  have r1 := wF_r hv 2 s 0
  have r2 := wF_r hv 2 s 1
  have r3 := wF_r hv 2 s 2
  have r4 := wF_r hv 2 s 3
  refine f_s [fi (0)] rfl rfl ?_
  refine f_istn [(3, fi (0)), (0, .ref 44), (1, fi (2)), (2, fi (s))] rfl (by decide) hL rfl (fun L1 hL1 => ?_)
  refine f_s [fi (0)] rfl rfl ?_
  refine f_ist [(4, fi (0)), (3, fi (0)), (0, .ref 44), (1, fi (2)), (2, fi (s))] rfl (by decide) hL1 rfl (fun L2 hL2 => ?_)
  refine f_il 0 rfl hL2 rfl ?_
  refine f_s [fi (4), fi (0)] rfl rfl ?_
  refine f_ic rfl (by decide) (by decide) (fun c_9 => absurd (show (4 : Int) < (0 : Int) from c_9) (by decide)) (fun _ => ?_)
  refine f_iln 1 rfl hL2 rfl ?_
  refine f_aln 2 rfl hL2 rfl ?_
  refine f_iln 3 rfl hL2 rfl ?_
  refine f_iln 4 rfl hL2 rfl ?_
  refine f_il 0 rfl hL2 rfl ?_
  refine m_k1 (t127_20 hn hv hn' h5 hB hF hs) hw hm rfl rfl rfl (m_ar so44 hw rfl) rfl (fun hc1 hw1 hm1 => ?_)
  refine m_k1 (t106 (x := 0) (y := Bt m 3 s) (by omega) (by omega)) hw1 hm1 rfl rfl rfl rfl rfl (fun hc2 hw2 hm2 => ?_)
  refine f_istn [(3, fi (max (0) (Bt m 3 s))), (4, fi (0)), (0, .ref 44), (1, fi (2)), (2, fi (s))] rfl (by decide) hL2 rfl (fun L3 hL3 => ?_)
  refine f_inc 1 [(4, fi (1)), (3, fi (max (0) (Bt m 3 s))), (0, .ref 44), (1, fi (2)), (2, fi (s))] rfl (by decide) hL3 rfl rfl (fun L4 hL4 => ?_)
  refine f_goto rfl ?_
  refine f_il 0 rfl hL4 rfl ?_
  refine f_s [fi (4), fi (1)] rfl rfl ?_
  refine f_ic rfl (by decide) (by decide) (fun c_9 => absurd (show (4 : Int) < (1 : Int) from c_9) (by decide)) (fun _ => ?_)
  refine f_iln 1 rfl hL4 rfl ?_
  refine f_aln 2 rfl hL4 rfl ?_
  refine f_iln 3 rfl hL4 rfl ?_
  refine f_iln 4 rfl hL4 rfl ?_
  refine f_il 0 rfl hL4 rfl ?_
  refine m_k1 (t127_21 hn hv hn' h5 hB hF hs) hw2 hm2 rfl rfl rfl (m_ar so44 hw2 rfl) rfl (fun hc3 hw3 hm3 => ?_)
  refine m_k1 (t106 (x := max (0) (Bt m 3 s)) (y := wF m 2 s 0) (by omega) (by omega)) hw3 hm3 rfl rfl rfl rfl rfl (fun hc4 hw4 hm4 => ?_)
  refine f_istn [(3, fi (max (max (0) (Bt m 3 s)) (wF m 2 s 0))), (4, fi (1)), (0, .ref 44), (1, fi (2)), (2, fi (s))] rfl (by decide) hL4 rfl (fun L5 hL5 => ?_)
  refine f_inc 1 [(4, fi (2)), (3, fi (max (max (0) (Bt m 3 s)) (wF m 2 s 0))), (0, .ref 44), (1, fi (2)), (2, fi (s))] rfl (by decide) hL5 rfl rfl (fun L6 hL6 => ?_)
  refine f_goto rfl ?_
  refine f_il 0 rfl hL6 rfl ?_
  refine f_s [fi (4), fi (2)] rfl rfl ?_
  refine f_ic rfl (by decide) (by decide) (fun c_9 => absurd (show (4 : Int) < (2 : Int) from c_9) (by decide)) (fun _ => ?_)
  refine f_iln 1 rfl hL6 rfl ?_
  refine f_aln 2 rfl hL6 rfl ?_
  refine f_iln 3 rfl hL6 rfl ?_
  refine f_iln 4 rfl hL6 rfl ?_
  refine f_il 0 rfl hL6 rfl ?_
  refine m_k1 (t127_22 hn hv hn' h5 hB hF hs) hw4 hm4 rfl rfl rfl (m_ar so44 hw4 rfl) rfl (fun hc5 hw5 hm5 => ?_)
  refine m_k1 (t106 (x := max (max (0) (Bt m 3 s)) (wF m 2 s 0)) (y := wF m 2 s 1) (by omega) (by omega)) hw5 hm5 rfl rfl rfl rfl rfl (fun hc6 hw6 hm6 => ?_)
  refine f_istn [(3, fi (max (max (max (0) (Bt m 3 s)) (wF m 2 s 0)) (wF m 2 s 1))), (4, fi (2)), (0, .ref 44), (1, fi (2)), (2, fi (s))] rfl (by decide) hL6 rfl (fun L7 hL7 => ?_)
  refine f_inc 1 [(4, fi (3)), (3, fi (max (max (max (0) (Bt m 3 s)) (wF m 2 s 0)) (wF m 2 s 1))), (0, .ref 44), (1, fi (2)), (2, fi (s))] rfl (by decide) hL7 rfl rfl (fun L8 hL8 => ?_)
  refine f_goto rfl ?_
  refine f_il 0 rfl hL8 rfl ?_
  refine f_s [fi (4), fi (3)] rfl rfl ?_
  refine f_ic rfl (by decide) (by decide) (fun c_9 => absurd (show (4 : Int) < (3 : Int) from c_9) (by decide)) (fun _ => ?_)
  refine f_iln 1 rfl hL8 rfl ?_
  refine f_aln 2 rfl hL8 rfl ?_
  refine f_iln 3 rfl hL8 rfl ?_
  refine f_iln 4 rfl hL8 rfl ?_
  refine f_il 0 rfl hL8 rfl ?_
  refine m_k1 (t127_23 hn hv hn' h5 hB hF hs) hw6 hm6 rfl rfl rfl (m_ar so44 hw6 rfl) rfl (fun hc7 hw7 hm7 => ?_)
  refine m_k1 (t106 (x := max (max (max (0) (Bt m 3 s)) (wF m 2 s 0)) (wF m 2 s 1)) (y := wF m 2 s 2) (by omega) (by omega)) hw7 hm7 rfl rfl rfl rfl rfl (fun hc8 hw8 hm8 => ?_)
  refine f_istn [(3, fi (max (max (max (max (0) (Bt m 3 s)) (wF m 2 s 0)) (wF m 2 s 1)) (wF m 2 s 2))), (4, fi (3)), (0, .ref 44), (1, fi (2)), (2, fi (s))] rfl (by decide) hL8 rfl (fun L9 hL9 => ?_)
  refine f_inc 1 [(4, fi (4)), (3, fi (max (max (max (max (0) (Bt m 3 s)) (wF m 2 s 0)) (wF m 2 s 1)) (wF m 2 s 2))), (0, .ref 44), (1, fi (2)), (2, fi (s))] rfl (by decide) hL9 rfl rfl (fun L10 hL10 => ?_)
  refine f_goto rfl ?_
  refine f_il 0 rfl hL10 rfl ?_
  refine f_s [fi (4), fi (4)] rfl rfl ?_
  refine f_ic rfl (by decide) (by decide) (fun c_9 => absurd (show (4 : Int) < (4 : Int) from c_9) (by decide)) (fun _ => ?_)
  refine f_iln 1 rfl hL10 rfl ?_
  refine f_aln 2 rfl hL10 rfl ?_
  refine f_iln 3 rfl hL10 rfl ?_
  refine f_iln 4 rfl hL10 rfl ?_
  refine f_il 0 rfl hL10 rfl ?_
  refine m_k1 (t127_24 hn hv hn' h5 hB hF hs) hw8 hm8 rfl rfl rfl (m_ar so44 hw8 rfl) rfl (fun hc9 hw9 hm9 => ?_)
  refine m_k1 (t106 (x := max (max (max (max (0) (Bt m 3 s)) (wF m 2 s 0)) (wF m 2 s 1)) (wF m 2 s 2)) (y := wF m 2 s 3) (by omega) (by omega)) hw9 hm9 rfl rfl rfl rfl rfl (fun hc10 hw10 hm10 => ?_)
  refine f_istn [(3, fi (max (max (max (max (max (0) (Bt m 3 s)) (wF m 2 s 0)) (wF m 2 s 1)) (wF m 2 s 2)) (wF m 2 s 3))), (4, fi (4)), (0, .ref 44), (1, fi (2)), (2, fi (s))] rfl (by decide) hL10 rfl (fun L11 hL11 => ?_)
  refine f_inc 1 [(4, fi (5)), (3, fi (max (max (max (max (max (0) (Bt m 3 s)) (wF m 2 s 0)) (wF m 2 s 1)) (wF m 2 s 2)) (wF m 2 s 3))), (0, .ref 44), (1, fi (2)), (2, fi (s))] rfl (by decide) hL11 rfl rfl (fun L12 hL12 => ?_)
  refine f_goto rfl ?_
  refine f_il 0 rfl hL12 rfl ?_
  refine f_s [fi (4), fi (5)] rfl rfl ?_
  refine f_ic rfl (by decide) (by decide) (fun _ => ?_) (fun c_9 => absurd (show (4 : Int) < (5 : Int) from (by decide)) c_9)
  refine f_iln 1 rfl hL12 rfl ?_
  exact f_ret1 rfl ⟨by rw [show max (max (max (max (max (0) (Bt m 3 s)) (wF m 2 s 0)) (wF m 2 s 1)) (wF m 2 s 2)) (wF m 2 s 3) = Bt m 2 s from best_m (by decide) hs], hw10, hm10⟩)
theorem t130_2 {m m' : Nat → Nat → Int} (hn : 0 ≤ m 3 5 ∧ m 3 5 ≤ 4) (hv : ∀ k : Nat, 0 ≤ wo m (k : Int) ∧ wo m (k : Int) ≤ 9) (hn' : m' 3 5 = m 3 5) (h5 : ∀ k, m' 5 k = m 5 k) (hB : ∀ j : Nat, j < 16 → m' 49 j = Bt m 3 (j : Int)) (hF : m' 52 2 = fsC m 2) {s : Int} (hs : 0 ≤ s ∧ s ≤ 15) : h_M 130 [.ref 44, fi (2), fi (s)] m' (some (fi ((gd (vW m) (FW m 2) (LsF (FW m) 3 2) (ind s) : Int)))) m' := h_M_of (R := ev_r130) rfl (fun hc hw hm => by
  have hL : f_L (lv_args 0 [.ref 44, fi (2), fi (s)]) [(0, .ref 44), (1, fi (2)), (2, fi (s))] := f_L_of rfl
  generalize lv_args 0 [.ref 44, fi (2), fi (s)] = L at hL
  show x_W none (1, 0, 5, 2, 6, 4, 90, 0, 0, ev_t130) 0 L [] hc 0 0 _
  have hR := gi_R hm
  have r0 := Bt_r hv 3 s
  have r1 := wF_r hv 2 s 0
  have r2 := wF_r hv 2 s 1
  have r3 := wF_r hv 2 s 2
  have r4 := wF_r hv 2 s 3
  have r5 := Bt_r hv 2 s
  have eB : hg (vW m) (FW m 2 :: LsF (FW m) 3 2) (ind s) = Bt m 2 s := rfl
  have eN : hg (vW m) (LsF (FW m) 3 2) (ind s) = Bt m 3 s := rfl
  have gk9 : ∀ k : Nat, (gcB (vW m) (FW m 2) (LsF (FW m) 3 2) (ind s) k = true ↔ wF m 2 s k = Bt m 2 s) := fun k => by
    rcases wF_k (m := m) 2 hs (k := k) with ⟨a1, a2, a3⟩ | ⟨a1, a2⟩
    · unfold gcB
      rw [a1, decide_eq_true a2, Bool.true_and, Bool.true_and, decide_eq_true_iff, eB, a3]
    · refine ⟨fun z => absurd ⟨(gcB_t z).1, (gcB_t z).2.1⟩ a1, fun z => ?_⟩
      rw [a2] at z
      omega
  refine f_aln 0 rfl hL rfl ?_
  refine f_iln 1 rfl hL rfl ?_
  refine f_iln 2 rfl hL rfl ?_
  refine m_k1 (t128_2 hn hv hn' h5 hB hF hs) hw hm rfl rfl rfl (m_ar so44 hw rfl) rfl (fun hc1 hw1 hm1 => ?_)
  refine f_istn [(3, fi (Bt m 2 s)), (0, .ref 44), (1, fi (2)), (2, fi (s))] rfl (by decide) hL rfl (fun L1 hL1 => ?_)
  refine f_s [fi (0)] rfl rfl ?_
  refine f_ist [(4, fi (0)), (3, fi (Bt m 2 s)), (0, .ref 44), (1, fi (2)), (2, fi (s))] rfl (by decide) hL1 rfl (fun L2 hL2 => ?_)
  refine f_il 0 rfl hL2 rfl ?_
  refine f_s [fi (4), fi (0)] rfl rfl ?_
  refine f_ic rfl (by decide) (by decide) (fun c_9 => absurd (show (4 : Int) < (0 : Int) from c_9) (by decide)) (fun _ => ?_)
  refine f_aln 2 rfl hL2 rfl ?_
  refine f_iln 3 rfl hL2 rfl ?_
  refine f_iln 4 rfl hL2 rfl ?_
  refine f_il 0 rfl hL2 rfl ?_
  refine m_k1 (t127_20 hn hv hn' h5 hB hF hs) hw1 hm1 rfl rfl rfl (m_ar so44 hw1 rfl) rfl (fun hc2 hw2 hm2 => ?_)
  refine f_iln 1 rfl hL2 rfl ?_
  refine f_ic rfl (by omega) (by omega) (fun d0 => ?_) (fun d0 => ?_)
  · have d0 : ¬ (Bt m 3 s : Int) = (Bt m 2 s : Int) := d0
    refine f_inc 0 [(4, fi (1)), (3, fi (Bt m 2 s)), (0, .ref 44), (1, fi (2)), (2, fi (s))] rfl (by decide) hL2 rfl rfl (fun L3 hL3 => ?_)
    refine f_goto rfl ?_
    refine f_il 0 rfl hL3 rfl ?_
    refine f_s [fi (4), fi (1)] rfl rfl ?_
    refine f_ic rfl (by decide) (by decide) (fun c_9 => absurd (show (4 : Int) < (1 : Int) from c_9) (by decide)) (fun _ => ?_)
    refine f_aln 2 rfl hL3 rfl ?_
    refine f_iln 3 rfl hL3 rfl ?_
    refine f_iln 4 rfl hL3 rfl ?_
    refine f_il 0 rfl hL3 rfl ?_
    refine m_k1 (t127_21 hn hv hn' h5 hB hF hs) hw2 hm2 rfl rfl rfl (m_ar so44 hw2 rfl) rfl (fun hc3 hw3 hm3 => ?_)
    refine f_iln 1 rfl hL3 rfl ?_
    refine f_ic rfl (by omega) (by omega) (fun d1 => ?_) (fun d1 => ?_)
    · have d1 : ¬ (wF m 2 s 0 : Int) = (Bt m 2 s : Int) := d1
      refine f_inc 0 [(4, fi (2)), (3, fi (Bt m 2 s)), (0, .ref 44), (1, fi (2)), (2, fi (s))] rfl (by decide) hL3 rfl rfl (fun L4 hL4 => ?_)
      refine f_goto rfl ?_
      refine f_il 0 rfl hL4 rfl ?_
      refine f_s [fi (4), fi (2)] rfl rfl ?_
      refine f_ic rfl (by decide) (by decide) (fun c_9 => absurd (show (4 : Int) < (2 : Int) from c_9) (by decide)) (fun _ => ?_)
      refine f_aln 2 rfl hL4 rfl ?_
      refine f_iln 3 rfl hL4 rfl ?_
      refine f_iln 4 rfl hL4 rfl ?_
      refine f_il 0 rfl hL4 rfl ?_
      refine m_k1 (t127_22 hn hv hn' h5 hB hF hs) hw3 hm3 rfl rfl rfl (m_ar so44 hw3 rfl) rfl (fun hc4 hw4 hm4 => ?_)
      refine f_iln 1 rfl hL4 rfl ?_
      refine f_ic rfl (by omega) (by omega) (fun d2 => ?_) (fun d2 => ?_)
      · have d2 : ¬ (wF m 2 s 1 : Int) = (Bt m 2 s : Int) := d2
        refine f_inc 0 [(4, fi (3)), (3, fi (Bt m 2 s)), (0, .ref 44), (1, fi (2)), (2, fi (s))] rfl (by decide) hL4 rfl rfl (fun L5 hL5 => ?_)
        refine f_goto rfl ?_
        refine f_il 0 rfl hL5 rfl ?_
        refine f_s [fi (4), fi (3)] rfl rfl ?_
        refine f_ic rfl (by decide) (by decide) (fun c_9 => absurd (show (4 : Int) < (3 : Int) from c_9) (by decide)) (fun _ => ?_)
        refine f_aln 2 rfl hL5 rfl ?_
        refine f_iln 3 rfl hL5 rfl ?_
        refine f_iln 4 rfl hL5 rfl ?_
        refine f_il 0 rfl hL5 rfl ?_
        refine m_k1 (t127_23 hn hv hn' h5 hB hF hs) hw4 hm4 rfl rfl rfl (m_ar so44 hw4 rfl) rfl (fun hc5 hw5 hm5 => ?_)
        refine f_iln 1 rfl hL5 rfl ?_
        refine f_ic rfl (by omega) (by omega) (fun d3 => ?_) (fun d3 => ?_)
        · have d3 : ¬ (wF m 2 s 2 : Int) = (Bt m 2 s : Int) := d3
          refine f_inc 0 [(4, fi (4)), (3, fi (Bt m 2 s)), (0, .ref 44), (1, fi (2)), (2, fi (s))] rfl (by decide) hL5 rfl rfl (fun L6 hL6 => ?_)
          refine f_goto rfl ?_
          refine f_il 0 rfl hL6 rfl ?_
          refine f_s [fi (4), fi (4)] rfl rfl ?_
          refine f_ic rfl (by decide) (by decide) (fun c_9 => absurd (show (4 : Int) < (4 : Int) from c_9) (by decide)) (fun _ => ?_)
          refine f_aln 2 rfl hL6 rfl ?_
          refine f_iln 3 rfl hL6 rfl ?_
          refine f_iln 4 rfl hL6 rfl ?_
          refine f_il 0 rfl hL6 rfl ?_
          refine m_k1 (t127_24 hn hv hn' h5 hB hF hs) hw5 hm5 rfl rfl rfl (m_ar so44 hw5 rfl) rfl (fun hc6 hw6 hm6 => ?_)
          refine f_iln 1 rfl hL6 rfl ?_
          refine f_ic rfl (by omega) (by omega) (fun d4 => ?_) (fun d4 => ?_)
          · have d4 : ¬ (wF m 2 s 3 : Int) = (Bt m 2 s : Int) := d4
            refine f_inc 0 [(4, fi (5)), (3, fi (Bt m 2 s)), (0, .ref 44), (1, fi (2)), (2, fi (s))] rfl (by decide) hL6 rfl rfl (fun L7 hL7 => ?_)
            refine f_goto rfl ?_
            refine f_il 0 rfl hL7 rfl ?_
            refine f_s [fi (4), fi (5)] rfl rfl ?_
            refine f_ic rfl (by decide) (by decide) (fun _ => ?_) (fun c_9 => absurd (show (4 : Int) < (5 : Int) from (by decide)) c_9)
            refine f_s [fi (0)] rfl rfl ?_
            have e9 : gd (vW m) (FW m 2) (LsF (FW m) 3 2) (ind s) = 0 := by
              unfold gd
              rw [eB, eN, if_neg d0, if_neg (fun z => d1 ((gk9 0).mp z)), if_neg (fun z => d2 ((gk9 1).mp z)), if_neg (fun z => d3 ((gk9 2).mp z)), if_neg (fun z => d4 ((gk9 3).mp z))]
            exact f_ret1 rfl ⟨by rw [e9]; rfl, hw6, hm6⟩
          · have d4 : ¬ (¬ (wF m 2 s 3 : Int) = (Bt m 2 s : Int)) := d4
            have d4 : wF m 2 s 3 = Bt m 2 s := Classical.byContradiction d4
            refine f_il 0 rfl hL6 rfl ?_
            have e9 : gd (vW m) (FW m 2) (LsF (FW m) 3 2) (ind s) = 4 := by
              unfold gd
              rw [eB, eN, if_neg d0, if_neg (fun z => d1 ((gk9 0).mp z)), if_neg (fun z => d2 ((gk9 1).mp z)), if_neg (fun z => d3 ((gk9 2).mp z)), if_pos ((gk9 3).mpr d4)]
            exact f_ret1 rfl ⟨by rw [e9]; rfl, hw6, hm6⟩
        · have d3 : ¬ (¬ (wF m 2 s 2 : Int) = (Bt m 2 s : Int)) := d3
          have d3 : wF m 2 s 2 = Bt m 2 s := Classical.byContradiction d3
          refine f_il 0 rfl hL5 rfl ?_
          have e9 : gd (vW m) (FW m 2) (LsF (FW m) 3 2) (ind s) = 3 := by
            unfold gd
            rw [eB, eN, if_neg d0, if_neg (fun z => d1 ((gk9 0).mp z)), if_neg (fun z => d2 ((gk9 1).mp z)), if_pos ((gk9 2).mpr d3)]
          exact f_ret1 rfl ⟨by rw [e9]; rfl, hw5, hm5⟩
      · have d2 : ¬ (¬ (wF m 2 s 1 : Int) = (Bt m 2 s : Int)) := d2
        have d2 : wF m 2 s 1 = Bt m 2 s := Classical.byContradiction d2
        refine f_il 0 rfl hL4 rfl ?_
        have e9 : gd (vW m) (FW m 2) (LsF (FW m) 3 2) (ind s) = 2 := by
          unfold gd
          rw [eB, eN, if_neg d0, if_neg (fun z => d1 ((gk9 0).mp z)), if_pos ((gk9 1).mpr d2)]
        exact f_ret1 rfl ⟨by rw [e9]; rfl, hw4, hm4⟩
    · have d1 : ¬ (¬ (wF m 2 s 0 : Int) = (Bt m 2 s : Int)) := d1
      have d1 : wF m 2 s 0 = Bt m 2 s := Classical.byContradiction d1
      refine f_il 0 rfl hL3 rfl ?_
      have e9 : gd (vW m) (FW m 2) (LsF (FW m) 3 2) (ind s) = 1 := by
        unfold gd
        rw [eB, eN, if_neg d0, if_pos ((gk9 0).mpr d1)]
      exact f_ret1 rfl ⟨by rw [e9]; rfl, hw3, hm3⟩
  · have d0 : ¬ (¬ (Bt m 3 s : Int) = (Bt m 2 s : Int)) := d0
    have d0 : Bt m 3 s = Bt m 2 s := Classical.byContradiction d0
    refine f_il 0 rfl hL2 rfl ?_
    have e9 : gd (vW m) (FW m 2) (LsF (FW m) 3 2) (ind s) = 0 := by
      unfold gd
      rw [eB, eN, if_pos d0]
    exact f_ret1 rfl ⟨by rw [e9]; rfl, hw2, hm2⟩)
theorem t127_30 {m m' : Nat → Nat → Int} (hn : 0 ≤ m 3 5 ∧ m 3 5 ≤ 4) (hv : ∀ k : Nat, 0 ≤ wo m (k : Int) ∧ wo m (k : Int) ≤ 9) (hn' : m' 3 5 = m 3 5) (h5 : ∀ k, m' 5 k = m 5 k) (hB : ∀ j : Nat, j < 16 → m' 50 j = Bt m 4 (j : Int)) (hF : m' 52 3 = fsC m 3) {s : Int} (hs : 0 ≤ s ∧ s ≤ 15) : h_M 127 [.ref 44, fi (3), fi (s), fi (0)] m' (some (fi (Bt m 4 s))) m' := h_M_of (R := ev_r127) rfl (fun hc hw hm => by
  have hL : f_L (lv_args 0 [.ref 44, fi (3), fi (s), fi (0)]) [(0, .ref 44), (1, fi (3)), (2, fi (s)), (3, fi (0))] := f_L_of rfl
  generalize lv_args 0 [.ref 44, fi (3), fi (s), fi (0)] = L at hL
  show x_W none (1, 0, 5, 3, 6, 2, 42, 0, 0, ev_t127) 0 L [] hc 0 0 _
  have hR := gi_R hm
  refine f_iln 1 rfl hL rfl ?_
  refine f_if rfl (by decide) (fun c_9 => absurd (show (3 : Int) < (0 : Int) from c_9) (by decide)) (fun _ => ?_)
  refine f_iln 1 rfl hL rfl ?_
  refine f_s [fi (5), fi (3)] rfl rfl ?_
  refine f_ic rfl (by decide) (by decide) (fun c_9 => absurd (show (5 : Int) ≤ (3 : Int) from c_9) (by decide)) (fun _ => ?_)
  refine f_iln 2 rfl hL rfl ?_
  refine f_if rfl (by omega) (fun c_9 => absurd (show (s : Int) < (0 : Int) from c_9) (by omega)) (fun _ => ?_)
  refine f_iln 2 rfl hL rfl ?_
  refine f_bipush (n := 16) rfl (by decide) ?_
  refine f_ic rfl (by omega) (by decide) (fun _ => ?_) (fun c_9 => absurd (show (s : Int) < (16 : Int) from (by omega)) c_9)
  have jb := hB (s).toNat (by omega)
  rw [show (((s).toNat : Nat) : Int) = s by omega] at jb
  refine f_iln 3 rfl hL rfl ?_
  refine f_if rfl (by decide) (fun c_9 => absurd (show ¬ (0 : Int) = (0 : Int) from c_9) (by decide)) (fun _ => ?_)
  refine f_aln 0 rfl hL rfl ?_
  refine m_gfr so44 rfl hw rfl (by decide) ?_
  refine f_iln 1 rfl hL rfl ?_
  refine f_s [fi (1), fi (3), .ref 45] rfl rfl ?_
  refine f_iadd rfl ?_
  refine b_eq (x := 4) (by decide) ?_
  refine m_aa sr45 rfl hw (by omega) (by omega) (by decide) ?_
  refine f_iln 2 rfl hL rfl ?_
  refine m_ia sa50 (Bt m 4 s) rfl hw hm (by omega) (by omega) (by decide) jb ?_
  exact f_ret1 rfl ⟨rfl, hw, hm⟩)
theorem t127_31 {m m' : Nat → Nat → Int} (hn : 0 ≤ m 3 5 ∧ m 3 5 ≤ 4) (hv : ∀ k : Nat, 0 ≤ wo m (k : Int) ∧ wo m (k : Int) ≤ 9) (hn' : m' 3 5 = m 3 5) (h5 : ∀ k, m' 5 k = m 5 k) (hB : ∀ j : Nat, j < 16 → m' 50 j = Bt m 4 (j : Int)) (hF : m' 52 3 = fsC m 3) {s : Int} (hs : 0 ≤ s ∧ s ≤ 15) : h_M 127 [.ref 44, fi (3), fi (s), fi (1)] m' (some (fi (wF m 3 s 0))) m' := h_M_of (R := ev_r127) rfl (fun hc hw hm => by
  have hL : f_L (lv_args 0 [.ref 44, fi (3), fi (s), fi (1)]) [(0, .ref 44), (1, fi (3)), (2, fi (s)), (3, fi (1))] := f_L_of rfl
  generalize lv_args 0 [.ref 44, fi (3), fi (s), fi (1)] = L at hL
  show x_W none (1, 0, 5, 3, 6, 2, 42, 0, 0, ev_t127) 0 L [] hc 0 0 _
  have hR := gi_R hm
  refine f_iln 1 rfl hL rfl ?_
  refine f_if rfl (by decide) (fun c_9 => absurd (show (3 : Int) < (0 : Int) from c_9) (by decide)) (fun _ => ?_)
  refine f_iln 1 rfl hL rfl ?_
  refine f_s [fi (5), fi (3)] rfl rfl ?_
  refine f_ic rfl (by decide) (by decide) (fun c_9 => absurd (show (5 : Int) ≤ (3 : Int) from c_9) (by decide)) (fun _ => ?_)
  refine f_iln 2 rfl hL rfl ?_
  refine f_if rfl (by omega) (fun c_9 => absurd (show (s : Int) < (0 : Int) from c_9) (by omega)) (fun _ => ?_)
  refine f_iln 2 rfl hL rfl ?_
  refine f_bipush (n := 16) rfl (by decide) ?_
  refine f_ic rfl (by omega) (by decide) (fun _ => ?_) (fun c_9 => absurd (show (s : Int) < (16 : Int) from (by omega)) c_9)
  have F15 := fsC_15 hn 3
  have bk9 := (bit_k hs F15).1
  have s2 := s_15 (y := iX (iS (1) (0)) (-1)) hs
  have jb := hB (iA (s) (iX (iS (1) (0)) (-1))).toNat (by omega)
  rw [show (((iA (s) (iX (iS (1) (0)) (-1))).toNat : Nat) : Int) = iA (s) (iX (iS (1) (0)) (-1)) by omega] at jb
  refine f_iln 3 rfl hL rfl ?_
  refine f_if rfl (by decide) (fun _ => ?_) (fun c_9 => absurd (show ¬ (1 : Int) = (0 : Int) from (by decide)) c_9)
  refine f_s [fi (1)] rfl rfl ?_
  refine f_iln 3 rfl hL rfl ?_
  refine f_s [fi (1), fi (1), fi (1)] rfl rfl ?_
  refine f_isub rfl ?_
  refine b_eq (x := 0) (by decide) ?_
  refine b_ishl rfl ?_
  refine f_ist [(4, fi (iS (1) (0))), (0, .ref 44), (1, fi (3)), (2, fi (s)), (3, fi (1))] rfl (by decide) hL rfl (fun L1 hL1 => ?_)
  refine f_iln 3 rfl hL1 rfl ?_
  refine f_aln 1 rfl hL1 rfl ?_
  refine m_gfr so44 rfl hw rfl (by decide) ?_
  refine f_iln 2 rfl hL1 rfl ?_
  refine m_ia sa52 (fsC m 3) rfl hw hm (by omega) (by omega) (by decide) hF ?_
  refine b_iand rfl ?_
  refine f_il 0 rfl hL1 rfl ?_
  refine b_iand rfl ?_
  refine f_if rfl iA_r (fun c1 => ?_) (fun c1 => ?_)
  · have c1 : ¬ (iA (iA (s) (fsC m 3)) (iS (1) (0)) : Int) = (0 : Int) := c1
    refine f_aln 1 rfl hL1 rfl ?_
    refine m_gfr so44 rfl hw rfl (by decide) ?_
    refine f_iln 4 rfl hL1 rfl ?_
    refine f_s [fi (1), fi (1), .ref 3] rfl rfl ?_
    refine f_isub rfl ?_
    refine b_eq (x := 0) (by decide) ?_
    have t9 := t42 (m := m') (x := 0) (by rw [hn']; exact hn) (by decide)
    rw [wo_q hn' h5] at t9
    refine m_k1 t9 hw hm rfl rfl rfl (m_ar so3 hw rfl) rfl (fun hc1 hw1 hm1 => ?_)
    refine f_aln 1 rfl hL1 rfl ?_
    refine m_gfr so44 rfl hw1 rfl (by decide) ?_
    refine f_iln 2 rfl hL1 rfl ?_
    refine f_s [fi (1), fi (3), .ref 45, fi (wo m 0)] rfl rfl ?_
    refine f_iadd rfl ?_
    refine b_eq (x := 4) (by decide) ?_
    refine m_aa sr45 rfl hw1 (by omega) (by omega) (by decide) ?_
    refine f_iln 3 rfl hL1 rfl ?_
    refine f_il 0 rfl hL1 rfl ?_
    refine f_s [fi (-1), fi (iS (1) (0)), fi (s), .ref 50, fi (wo m 0)] rfl rfl ?_
    refine b_ixor rfl ?_
    refine b_iand rfl ?_
    refine m_ia sa50 (Bt m 4 (iA (s) (iX (iS (1) (0)) (-1)))) rfl hw1 hm1 (by omega) (by omega) (by decide) jb ?_
    refine f_iadd rfl ?_
    exact f_ret1 rfl ⟨by rw [show wF m 3 s 0 = wo m 0 + Bt m 4 (iA (s) (iX (iS (1) (0)) (-1))) from if_pos (by rw [decide_eq_true c1] at bk9; have := bk9.symm; rw [Bool.and_eq_true] at this; exact this)], hw1, hm1⟩
  · have c1 : ¬ (¬ (iA (iA (s) (fsC m 3)) (iS (1) (0)) : Int) = (0 : Int)) := c1
    refine f_bipush (n := -9) rfl (by decide) ?_
    exact f_ret1 rfl ⟨by rw [show wF m 3 s 0 = -9 from if_neg (fun z => by rw [decide_eq_false c1] at bk9; have y : (tB s 0 && tB (fsC m 3) 0) = true := (by rw [Bool.and_eq_true]; exact z); rw [← bk9] at y; cases y)], hw, hm⟩)
theorem t127_32 {m m' : Nat → Nat → Int} (hn : 0 ≤ m 3 5 ∧ m 3 5 ≤ 4) (hv : ∀ k : Nat, 0 ≤ wo m (k : Int) ∧ wo m (k : Int) ≤ 9) (hn' : m' 3 5 = m 3 5) (h5 : ∀ k, m' 5 k = m 5 k) (hB : ∀ j : Nat, j < 16 → m' 50 j = Bt m 4 (j : Int)) (hF : m' 52 3 = fsC m 3) {s : Int} (hs : 0 ≤ s ∧ s ≤ 15) : h_M 127 [.ref 44, fi (3), fi (s), fi (2)] m' (some (fi (wF m 3 s 1))) m' := h_M_of (R := ev_r127) rfl (fun hc hw hm => by
  have hL : f_L (lv_args 0 [.ref 44, fi (3), fi (s), fi (2)]) [(0, .ref 44), (1, fi (3)), (2, fi (s)), (3, fi (2))] := f_L_of rfl
  generalize lv_args 0 [.ref 44, fi (3), fi (s), fi (2)] = L at hL
  show x_W none (1, 0, 5, 3, 6, 2, 42, 0, 0, ev_t127) 0 L [] hc 0 0 _
  have hR := gi_R hm
  refine f_iln 1 rfl hL rfl ?_
  refine f_if rfl (by decide) (fun c_9 => absurd (show (3 : Int) < (0 : Int) from c_9) (by decide)) (fun _ => ?_)
  refine f_iln 1 rfl hL rfl ?_
  refine f_s [fi (5), fi (3)] rfl rfl ?_
  refine f_ic rfl (by decide) (by decide) (fun c_9 => absurd (show (5 : Int) ≤ (3 : Int) from c_9) (by decide)) (fun _ => ?_)
  refine f_iln 2 rfl hL rfl ?_
  refine f_if rfl (by omega) (fun c_9 => absurd (show (s : Int) < (0 : Int) from c_9) (by omega)) (fun _ => ?_)
  refine f_iln 2 rfl hL rfl ?_
  refine f_bipush (n := 16) rfl (by decide) ?_
  refine f_ic rfl (by omega) (by decide) (fun _ => ?_) (fun c_9 => absurd (show (s : Int) < (16 : Int) from (by omega)) c_9)
  have F15 := fsC_15 hn 3
  have bk9 := (bit_k hs F15).2.1
  have s2 := s_15 (y := iX (iS (1) (1)) (-1)) hs
  have jb := hB (iA (s) (iX (iS (1) (1)) (-1))).toNat (by omega)
  rw [show (((iA (s) (iX (iS (1) (1)) (-1))).toNat : Nat) : Int) = iA (s) (iX (iS (1) (1)) (-1)) by omega] at jb
  refine f_iln 3 rfl hL rfl ?_
  refine f_if rfl (by decide) (fun _ => ?_) (fun c_9 => absurd (show ¬ (2 : Int) = (0 : Int) from (by decide)) c_9)
  refine f_s [fi (1)] rfl rfl ?_
  refine f_iln 3 rfl hL rfl ?_
  refine f_s [fi (1), fi (2), fi (1)] rfl rfl ?_
  refine f_isub rfl ?_
  refine b_eq (x := 1) (by decide) ?_
  refine b_ishl rfl ?_
  refine f_ist [(4, fi (iS (1) (1))), (0, .ref 44), (1, fi (3)), (2, fi (s)), (3, fi (2))] rfl (by decide) hL rfl (fun L1 hL1 => ?_)
  refine f_iln 3 rfl hL1 rfl ?_
  refine f_aln 1 rfl hL1 rfl ?_
  refine m_gfr so44 rfl hw rfl (by decide) ?_
  refine f_iln 2 rfl hL1 rfl ?_
  refine m_ia sa52 (fsC m 3) rfl hw hm (by omega) (by omega) (by decide) hF ?_
  refine b_iand rfl ?_
  refine f_il 0 rfl hL1 rfl ?_
  refine b_iand rfl ?_
  refine f_if rfl iA_r (fun c1 => ?_) (fun c1 => ?_)
  · have c1 : ¬ (iA (iA (s) (fsC m 3)) (iS (1) (1)) : Int) = (0 : Int) := c1
    refine f_aln 1 rfl hL1 rfl ?_
    refine m_gfr so44 rfl hw rfl (by decide) ?_
    refine f_iln 4 rfl hL1 rfl ?_
    refine f_s [fi (1), fi (2), .ref 3] rfl rfl ?_
    refine f_isub rfl ?_
    refine b_eq (x := 1) (by decide) ?_
    have t9 := t42 (m := m') (x := 1) (by rw [hn']; exact hn) (by decide)
    rw [wo_q hn' h5] at t9
    refine m_k1 t9 hw hm rfl rfl rfl (m_ar so3 hw rfl) rfl (fun hc1 hw1 hm1 => ?_)
    refine f_aln 1 rfl hL1 rfl ?_
    refine m_gfr so44 rfl hw1 rfl (by decide) ?_
    refine f_iln 2 rfl hL1 rfl ?_
    refine f_s [fi (1), fi (3), .ref 45, fi (wo m 1)] rfl rfl ?_
    refine f_iadd rfl ?_
    refine b_eq (x := 4) (by decide) ?_
    refine m_aa sr45 rfl hw1 (by omega) (by omega) (by decide) ?_
    refine f_iln 3 rfl hL1 rfl ?_
    refine f_il 0 rfl hL1 rfl ?_
    refine f_s [fi (-1), fi (iS (1) (1)), fi (s), .ref 50, fi (wo m 1)] rfl rfl ?_
    refine b_ixor rfl ?_
    refine b_iand rfl ?_
    refine m_ia sa50 (Bt m 4 (iA (s) (iX (iS (1) (1)) (-1)))) rfl hw1 hm1 (by omega) (by omega) (by decide) jb ?_
    refine f_iadd rfl ?_
    exact f_ret1 rfl ⟨by rw [show wF m 3 s 1 = wo m 1 + Bt m 4 (iA (s) (iX (iS (1) (1)) (-1))) from if_pos (by rw [decide_eq_true c1] at bk9; have := bk9.symm; rw [Bool.and_eq_true] at this; exact this)], hw1, hm1⟩
  · have c1 : ¬ (¬ (iA (iA (s) (fsC m 3)) (iS (1) (1)) : Int) = (0 : Int)) := c1
    refine f_bipush (n := -9) rfl (by decide) ?_
    exact f_ret1 rfl ⟨by rw [show wF m 3 s 1 = -9 from if_neg (fun z => by rw [decide_eq_false c1] at bk9; have y : (tB s 1 && tB (fsC m 3) 1) = true := (by rw [Bool.and_eq_true]; exact z); rw [← bk9] at y; cases y)], hw, hm⟩)
theorem t127_33 {m m' : Nat → Nat → Int} (hn : 0 ≤ m 3 5 ∧ m 3 5 ≤ 4) (hv : ∀ k : Nat, 0 ≤ wo m (k : Int) ∧ wo m (k : Int) ≤ 9) (hn' : m' 3 5 = m 3 5) (h5 : ∀ k, m' 5 k = m 5 k) (hB : ∀ j : Nat, j < 16 → m' 50 j = Bt m 4 (j : Int)) (hF : m' 52 3 = fsC m 3) {s : Int} (hs : 0 ≤ s ∧ s ≤ 15) : h_M 127 [.ref 44, fi (3), fi (s), fi (3)] m' (some (fi (wF m 3 s 2))) m' := h_M_of (R := ev_r127) rfl (fun hc hw hm => by
  have hL : f_L (lv_args 0 [.ref 44, fi (3), fi (s), fi (3)]) [(0, .ref 44), (1, fi (3)), (2, fi (s)), (3, fi (3))] := f_L_of rfl
  generalize lv_args 0 [.ref 44, fi (3), fi (s), fi (3)] = L at hL
  show x_W none (1, 0, 5, 3, 6, 2, 42, 0, 0, ev_t127) 0 L [] hc 0 0 _
  have hR := gi_R hm
  refine f_iln 1 rfl hL rfl ?_
  refine f_if rfl (by decide) (fun c_9 => absurd (show (3 : Int) < (0 : Int) from c_9) (by decide)) (fun _ => ?_)
  refine f_iln 1 rfl hL rfl ?_
  refine f_s [fi (5), fi (3)] rfl rfl ?_
  refine f_ic rfl (by decide) (by decide) (fun c_9 => absurd (show (5 : Int) ≤ (3 : Int) from c_9) (by decide)) (fun _ => ?_)
  refine f_iln 2 rfl hL rfl ?_
  refine f_if rfl (by omega) (fun c_9 => absurd (show (s : Int) < (0 : Int) from c_9) (by omega)) (fun _ => ?_)
  refine f_iln 2 rfl hL rfl ?_
  refine f_bipush (n := 16) rfl (by decide) ?_
  refine f_ic rfl (by omega) (by decide) (fun _ => ?_) (fun c_9 => absurd (show (s : Int) < (16 : Int) from (by omega)) c_9)
  have F15 := fsC_15 hn 3
  have bk9 := (bit_k hs F15).2.2.1
  have s2 := s_15 (y := iX (iS (1) (2)) (-1)) hs
  have jb := hB (iA (s) (iX (iS (1) (2)) (-1))).toNat (by omega)
  rw [show (((iA (s) (iX (iS (1) (2)) (-1))).toNat : Nat) : Int) = iA (s) (iX (iS (1) (2)) (-1)) by omega] at jb
  refine f_iln 3 rfl hL rfl ?_
  refine f_if rfl (by decide) (fun _ => ?_) (fun c_9 => absurd (show ¬ (3 : Int) = (0 : Int) from (by decide)) c_9)
  refine f_s [fi (1)] rfl rfl ?_
  refine f_iln 3 rfl hL rfl ?_
  refine f_s [fi (1), fi (3), fi (1)] rfl rfl ?_
  refine f_isub rfl ?_
  refine b_eq (x := 2) (by decide) ?_
  refine b_ishl rfl ?_
  refine f_ist [(4, fi (iS (1) (2))), (0, .ref 44), (1, fi (3)), (2, fi (s)), (3, fi (3))] rfl (by decide) hL rfl (fun L1 hL1 => ?_)
  refine f_iln 3 rfl hL1 rfl ?_
  refine f_aln 1 rfl hL1 rfl ?_
  refine m_gfr so44 rfl hw rfl (by decide) ?_
  refine f_iln 2 rfl hL1 rfl ?_
  refine m_ia sa52 (fsC m 3) rfl hw hm (by omega) (by omega) (by decide) hF ?_
  refine b_iand rfl ?_
  refine f_il 0 rfl hL1 rfl ?_
  refine b_iand rfl ?_
  refine f_if rfl iA_r (fun c1 => ?_) (fun c1 => ?_)
  · have c1 : ¬ (iA (iA (s) (fsC m 3)) (iS (1) (2)) : Int) = (0 : Int) := c1
    refine f_aln 1 rfl hL1 rfl ?_
    refine m_gfr so44 rfl hw rfl (by decide) ?_
    refine f_iln 4 rfl hL1 rfl ?_
    refine f_s [fi (1), fi (3), .ref 3] rfl rfl ?_
    refine f_isub rfl ?_
    refine b_eq (x := 2) (by decide) ?_
    have t9 := t42 (m := m') (x := 2) (by rw [hn']; exact hn) (by decide)
    rw [wo_q hn' h5] at t9
    refine m_k1 t9 hw hm rfl rfl rfl (m_ar so3 hw rfl) rfl (fun hc1 hw1 hm1 => ?_)
    refine f_aln 1 rfl hL1 rfl ?_
    refine m_gfr so44 rfl hw1 rfl (by decide) ?_
    refine f_iln 2 rfl hL1 rfl ?_
    refine f_s [fi (1), fi (3), .ref 45, fi (wo m 2)] rfl rfl ?_
    refine f_iadd rfl ?_
    refine b_eq (x := 4) (by decide) ?_
    refine m_aa sr45 rfl hw1 (by omega) (by omega) (by decide) ?_
    refine f_iln 3 rfl hL1 rfl ?_
    refine f_il 0 rfl hL1 rfl ?_
    refine f_s [fi (-1), fi (iS (1) (2)), fi (s), .ref 50, fi (wo m 2)] rfl rfl ?_
    refine b_ixor rfl ?_
    refine b_iand rfl ?_
    refine m_ia sa50 (Bt m 4 (iA (s) (iX (iS (1) (2)) (-1)))) rfl hw1 hm1 (by omega) (by omega) (by decide) jb ?_
    refine f_iadd rfl ?_
    exact f_ret1 rfl ⟨by rw [show wF m 3 s 2 = wo m 2 + Bt m 4 (iA (s) (iX (iS (1) (2)) (-1))) from if_pos (by rw [decide_eq_true c1] at bk9; have := bk9.symm; rw [Bool.and_eq_true] at this; exact this)], hw1, hm1⟩
  · have c1 : ¬ (¬ (iA (iA (s) (fsC m 3)) (iS (1) (2)) : Int) = (0 : Int)) := c1
    refine f_bipush (n := -9) rfl (by decide) ?_
    exact f_ret1 rfl ⟨by rw [show wF m 3 s 2 = -9 from if_neg (fun z => by rw [decide_eq_false c1] at bk9; have y : (tB s 2 && tB (fsC m 3) 2) = true := (by rw [Bool.and_eq_true]; exact z); rw [← bk9] at y; cases y)], hw, hm⟩)
theorem t127_34 {m m' : Nat → Nat → Int} (hn : 0 ≤ m 3 5 ∧ m 3 5 ≤ 4) (hv : ∀ k : Nat, 0 ≤ wo m (k : Int) ∧ wo m (k : Int) ≤ 9) (hn' : m' 3 5 = m 3 5) (h5 : ∀ k, m' 5 k = m 5 k) (hB : ∀ j : Nat, j < 16 → m' 50 j = Bt m 4 (j : Int)) (hF : m' 52 3 = fsC m 3) {s : Int} (hs : 0 ≤ s ∧ s ≤ 15) : h_M 127 [.ref 44, fi (3), fi (s), fi (4)] m' (some (fi (wF m 3 s 3))) m' := h_M_of (R := ev_r127) rfl (fun hc hw hm => by
  have hL : f_L (lv_args 0 [.ref 44, fi (3), fi (s), fi (4)]) [(0, .ref 44), (1, fi (3)), (2, fi (s)), (3, fi (4))] := f_L_of rfl
  generalize lv_args 0 [.ref 44, fi (3), fi (s), fi (4)] = L at hL
  show x_W none (1, 0, 5, 3, 6, 2, 42, 0, 0, ev_t127) 0 L [] hc 0 0 _
  have hR := gi_R hm
  refine f_iln 1 rfl hL rfl ?_
  refine f_if rfl (by decide) (fun c_9 => absurd (show (3 : Int) < (0 : Int) from c_9) (by decide)) (fun _ => ?_)
  refine f_iln 1 rfl hL rfl ?_
  refine f_s [fi (5), fi (3)] rfl rfl ?_
  refine f_ic rfl (by decide) (by decide) (fun c_9 => absurd (show (5 : Int) ≤ (3 : Int) from c_9) (by decide)) (fun _ => ?_)
  refine f_iln 2 rfl hL rfl ?_
  refine f_if rfl (by omega) (fun c_9 => absurd (show (s : Int) < (0 : Int) from c_9) (by omega)) (fun _ => ?_)
  refine f_iln 2 rfl hL rfl ?_
  refine f_bipush (n := 16) rfl (by decide) ?_
  refine f_ic rfl (by omega) (by decide) (fun _ => ?_) (fun c_9 => absurd (show (s : Int) < (16 : Int) from (by omega)) c_9)
  have F15 := fsC_15 hn 3
  have bk9 := (bit_k hs F15).2.2.2
  have s2 := s_15 (y := iX (iS (1) (3)) (-1)) hs
  have jb := hB (iA (s) (iX (iS (1) (3)) (-1))).toNat (by omega)
  rw [show (((iA (s) (iX (iS (1) (3)) (-1))).toNat : Nat) : Int) = iA (s) (iX (iS (1) (3)) (-1)) by omega] at jb
  refine f_iln 3 rfl hL rfl ?_
  refine f_if rfl (by decide) (fun _ => ?_) (fun c_9 => absurd (show ¬ (4 : Int) = (0 : Int) from (by decide)) c_9)
  refine f_s [fi (1)] rfl rfl ?_
  refine f_iln 3 rfl hL rfl ?_
  refine f_s [fi (1), fi (4), fi (1)] rfl rfl ?_
  refine f_isub rfl ?_
  refine b_eq (x := 3) (by decide) ?_
  refine b_ishl rfl ?_
  refine f_ist [(4, fi (iS (1) (3))), (0, .ref 44), (1, fi (3)), (2, fi (s)), (3, fi (4))] rfl (by decide) hL rfl (fun L1 hL1 => ?_)
  refine f_iln 3 rfl hL1 rfl ?_
  refine f_aln 1 rfl hL1 rfl ?_
  refine m_gfr so44 rfl hw rfl (by decide) ?_
  refine f_iln 2 rfl hL1 rfl ?_
  refine m_ia sa52 (fsC m 3) rfl hw hm (by omega) (by omega) (by decide) hF ?_
  refine b_iand rfl ?_
  refine f_il 0 rfl hL1 rfl ?_
  refine b_iand rfl ?_
  refine f_if rfl iA_r (fun c1 => ?_) (fun c1 => ?_)
  · have c1 : ¬ (iA (iA (s) (fsC m 3)) (iS (1) (3)) : Int) = (0 : Int) := c1
    refine f_aln 1 rfl hL1 rfl ?_
    refine m_gfr so44 rfl hw rfl (by decide) ?_
    refine f_iln 4 rfl hL1 rfl ?_
    refine f_s [fi (1), fi (4), .ref 3] rfl rfl ?_
    refine f_isub rfl ?_
    refine b_eq (x := 3) (by decide) ?_
    have t9 := t42 (m := m') (x := 3) (by rw [hn']; exact hn) (by decide)
    rw [wo_q hn' h5] at t9
    refine m_k1 t9 hw hm rfl rfl rfl (m_ar so3 hw rfl) rfl (fun hc1 hw1 hm1 => ?_)
    refine f_aln 1 rfl hL1 rfl ?_
    refine m_gfr so44 rfl hw1 rfl (by decide) ?_
    refine f_iln 2 rfl hL1 rfl ?_
    refine f_s [fi (1), fi (3), .ref 45, fi (wo m 3)] rfl rfl ?_
    refine f_iadd rfl ?_
    refine b_eq (x := 4) (by decide) ?_
    refine m_aa sr45 rfl hw1 (by omega) (by omega) (by decide) ?_
    refine f_iln 3 rfl hL1 rfl ?_
    refine f_il 0 rfl hL1 rfl ?_
    refine f_s [fi (-1), fi (iS (1) (3)), fi (s), .ref 50, fi (wo m 3)] rfl rfl ?_
    refine b_ixor rfl ?_
    refine b_iand rfl ?_
    refine m_ia sa50 (Bt m 4 (iA (s) (iX (iS (1) (3)) (-1)))) rfl hw1 hm1 (by omega) (by omega) (by decide) jb ?_
    refine f_iadd rfl ?_
    exact f_ret1 rfl ⟨by rw [show wF m 3 s 3 = wo m 3 + Bt m 4 (iA (s) (iX (iS (1) (3)) (-1))) from if_pos (by rw [decide_eq_true c1] at bk9; have := bk9.symm; rw [Bool.and_eq_true] at this; exact this)], hw1, hm1⟩
  · have c1 : ¬ (¬ (iA (iA (s) (fsC m 3)) (iS (1) (3)) : Int) = (0 : Int)) := c1
    refine f_bipush (n := -9) rfl (by decide) ?_
    exact f_ret1 rfl ⟨by rw [show wF m 3 s 3 = -9 from if_neg (fun z => by rw [decide_eq_false c1] at bk9; have y : (tB s 3 && tB (fsC m 3) 3) = true := (by rw [Bool.and_eq_true]; exact z); rw [← bk9] at y; cases y)], hw, hm⟩)
theorem t128_3 {m m' : Nat → Nat → Int} (hn : 0 ≤ m 3 5 ∧ m 3 5 ≤ 4) (hv : ∀ k : Nat, 0 ≤ wo m (k : Int) ∧ wo m (k : Int) ≤ 9) (hn' : m' 3 5 = m 3 5) (h5 : ∀ k, m' 5 k = m 5 k) (hB : ∀ j : Nat, j < 16 → m' 50 j = Bt m 4 (j : Int)) (hF : m' 52 3 = fsC m 3) {s : Int} (hs : 0 ≤ s ∧ s ≤ 15) : h_M 128 [.ref 44, fi (3), fi (s)] m' (some (fi (Bt m 3 s))) m' := h_M_of (R := ev_r128) rfl (fun hc hw hm => by
  have hL : f_L (lv_args 0 [.ref 44, fi (3), fi (s)]) [(0, .ref 44), (1, fi (3)), (2, fi (s))] := f_L_of rfl
  generalize lv_args 0 [.ref 44, fi (3), fi (s)] = L at hL
  show x_W none (1, 0, 5, 2, 6, 3, 66, 0, 0, ev_t128) 0 L [] hc 0 0 _
  have hR := gi_R hm
  have r0 := Bt_r hv 4 s
  have r1 := wF_r hv 3 s 0
  have r2 := wF_r hv 3 s 1
  have r3 := wF_r hv 3 s 2
  have r4 := wF_r hv 3 s 3
  refine f_s [fi (0)] rfl rfl ?_
  refine f_istn [(3, fi (0)), (0, .ref 44), (1, fi (3)), (2, fi (s))] rfl (by decide) hL rfl (fun L1 hL1 => ?_)
  refine f_s [fi (0)] rfl rfl ?_
  refine f_ist [(4, fi (0)), (3, fi (0)), (0, .ref 44), (1, fi (3)), (2, fi (s))] rfl (by decide) hL1 rfl (fun L2 hL2 => ?_)
  refine f_il 0 rfl hL2 rfl ?_
  refine f_s [fi (4), fi (0)] rfl rfl ?_
  refine f_ic rfl (by decide) (by decide) (fun c_9 => absurd (show (4 : Int) < (0 : Int) from c_9) (by decide)) (fun _ => ?_)
  refine f_iln 1 rfl hL2 rfl ?_
  refine f_aln 2 rfl hL2 rfl ?_
  refine f_iln 3 rfl hL2 rfl ?_
  refine f_iln 4 rfl hL2 rfl ?_
  refine f_il 0 rfl hL2 rfl ?_
  refine m_k1 (t127_30 hn hv hn' h5 hB hF hs) hw hm rfl rfl rfl (m_ar so44 hw rfl) rfl (fun hc1 hw1 hm1 => ?_)
  refine m_k1 (t106 (x := 0) (y := Bt m 4 s) (by omega) (by omega)) hw1 hm1 rfl rfl rfl rfl rfl (fun hc2 hw2 hm2 => ?_)
  refine f_istn [(3, fi (max (0) (Bt m 4 s))), (4, fi (0)), (0, .ref 44), (1, fi (3)), (2, fi (s))] rfl (by decide) hL2 rfl (fun L3 hL3 => ?_)
  refine f_inc 1 [(4, fi (1)), (3, fi (max (0) (Bt m 4 s))), (0, .ref 44), (1, fi (3)), (2, fi (s))] rfl (by decide) hL3 rfl rfl (fun L4 hL4 => ?_)
  refine f_goto rfl ?_
  refine f_il 0 rfl hL4 rfl ?_
  refine f_s [fi (4), fi (1)] rfl rfl ?_
  refine f_ic rfl (by decide) (by decide) (fun c_9 => absurd (show (4 : Int) < (1 : Int) from c_9) (by decide)) (fun _ => ?_)
  refine f_iln 1 rfl hL4 rfl ?_
  refine f_aln 2 rfl hL4 rfl ?_
  refine f_iln 3 rfl hL4 rfl ?_
  refine f_iln 4 rfl hL4 rfl ?_
  refine f_il 0 rfl hL4 rfl ?_
  refine m_k1 (t127_31 hn hv hn' h5 hB hF hs) hw2 hm2 rfl rfl rfl (m_ar so44 hw2 rfl) rfl (fun hc3 hw3 hm3 => ?_)
  refine m_k1 (t106 (x := max (0) (Bt m 4 s)) (y := wF m 3 s 0) (by omega) (by omega)) hw3 hm3 rfl rfl rfl rfl rfl (fun hc4 hw4 hm4 => ?_)
  refine f_istn [(3, fi (max (max (0) (Bt m 4 s)) (wF m 3 s 0))), (4, fi (1)), (0, .ref 44), (1, fi (3)), (2, fi (s))] rfl (by decide) hL4 rfl (fun L5 hL5 => ?_)
  refine f_inc 1 [(4, fi (2)), (3, fi (max (max (0) (Bt m 4 s)) (wF m 3 s 0))), (0, .ref 44), (1, fi (3)), (2, fi (s))] rfl (by decide) hL5 rfl rfl (fun L6 hL6 => ?_)
  refine f_goto rfl ?_
  refine f_il 0 rfl hL6 rfl ?_
  refine f_s [fi (4), fi (2)] rfl rfl ?_
  refine f_ic rfl (by decide) (by decide) (fun c_9 => absurd (show (4 : Int) < (2 : Int) from c_9) (by decide)) (fun _ => ?_)
  refine f_iln 1 rfl hL6 rfl ?_
  refine f_aln 2 rfl hL6 rfl ?_
  refine f_iln 3 rfl hL6 rfl ?_
  refine f_iln 4 rfl hL6 rfl ?_
  refine f_il 0 rfl hL6 rfl ?_
  refine m_k1 (t127_32 hn hv hn' h5 hB hF hs) hw4 hm4 rfl rfl rfl (m_ar so44 hw4 rfl) rfl (fun hc5 hw5 hm5 => ?_)
  refine m_k1 (t106 (x := max (max (0) (Bt m 4 s)) (wF m 3 s 0)) (y := wF m 3 s 1) (by omega) (by omega)) hw5 hm5 rfl rfl rfl rfl rfl (fun hc6 hw6 hm6 => ?_)
  refine f_istn [(3, fi (max (max (max (0) (Bt m 4 s)) (wF m 3 s 0)) (wF m 3 s 1))), (4, fi (2)), (0, .ref 44), (1, fi (3)), (2, fi (s))] rfl (by decide) hL6 rfl (fun L7 hL7 => ?_)
  refine f_inc 1 [(4, fi (3)), (3, fi (max (max (max (0) (Bt m 4 s)) (wF m 3 s 0)) (wF m 3 s 1))), (0, .ref 44), (1, fi (3)), (2, fi (s))] rfl (by decide) hL7 rfl rfl (fun L8 hL8 => ?_)
  refine f_goto rfl ?_
  refine f_il 0 rfl hL8 rfl ?_
  refine f_s [fi (4), fi (3)] rfl rfl ?_
  refine f_ic rfl (by decide) (by decide) (fun c_9 => absurd (show (4 : Int) < (3 : Int) from c_9) (by decide)) (fun _ => ?_)
  refine f_iln 1 rfl hL8 rfl ?_
  refine f_aln 2 rfl hL8 rfl ?_
  refine f_iln 3 rfl hL8 rfl ?_
  refine f_iln 4 rfl hL8 rfl ?_
  refine f_il 0 rfl hL8 rfl ?_
  refine m_k1 (t127_33 hn hv hn' h5 hB hF hs) hw6 hm6 rfl rfl rfl (m_ar so44 hw6 rfl) rfl (fun hc7 hw7 hm7 => ?_)
  refine m_k1 (t106 (x := max (max (max (0) (Bt m 4 s)) (wF m 3 s 0)) (wF m 3 s 1)) (y := wF m 3 s 2) (by omega) (by omega)) hw7 hm7 rfl rfl rfl rfl rfl (fun hc8 hw8 hm8 => ?_)
  refine f_istn [(3, fi (max (max (max (max (0) (Bt m 4 s)) (wF m 3 s 0)) (wF m 3 s 1)) (wF m 3 s 2))), (4, fi (3)), (0, .ref 44), (1, fi (3)), (2, fi (s))] rfl (by decide) hL8 rfl (fun L9 hL9 => ?_)
  refine f_inc 1 [(4, fi (4)), (3, fi (max (max (max (max (0) (Bt m 4 s)) (wF m 3 s 0)) (wF m 3 s 1)) (wF m 3 s 2))), (0, .ref 44), (1, fi (3)), (2, fi (s))] rfl (by decide) hL9 rfl rfl (fun L10 hL10 => ?_)
  refine f_goto rfl ?_
  refine f_il 0 rfl hL10 rfl ?_
  refine f_s [fi (4), fi (4)] rfl rfl ?_
  refine f_ic rfl (by decide) (by decide) (fun c_9 => absurd (show (4 : Int) < (4 : Int) from c_9) (by decide)) (fun _ => ?_)
  refine f_iln 1 rfl hL10 rfl ?_
  refine f_aln 2 rfl hL10 rfl ?_
  refine f_iln 3 rfl hL10 rfl ?_
  refine f_iln 4 rfl hL10 rfl ?_
  refine f_il 0 rfl hL10 rfl ?_
  refine m_k1 (t127_34 hn hv hn' h5 hB hF hs) hw8 hm8 rfl rfl rfl (m_ar so44 hw8 rfl) rfl (fun hc9 hw9 hm9 => ?_)
  refine m_k1 (t106 (x := max (max (max (max (0) (Bt m 4 s)) (wF m 3 s 0)) (wF m 3 s 1)) (wF m 3 s 2)) (y := wF m 3 s 3) (by omega) (by omega)) hw9 hm9 rfl rfl rfl rfl rfl (fun hc10 hw10 hm10 => ?_)
  refine f_istn [(3, fi (max (max (max (max (max (0) (Bt m 4 s)) (wF m 3 s 0)) (wF m 3 s 1)) (wF m 3 s 2)) (wF m 3 s 3))), (4, fi (4)), (0, .ref 44), (1, fi (3)), (2, fi (s))] rfl (by decide) hL10 rfl (fun L11 hL11 => ?_)
  refine f_inc 1 [(4, fi (5)), (3, fi (max (max (max (max (max (0) (Bt m 4 s)) (wF m 3 s 0)) (wF m 3 s 1)) (wF m 3 s 2)) (wF m 3 s 3))), (0, .ref 44), (1, fi (3)), (2, fi (s))] rfl (by decide) hL11 rfl rfl (fun L12 hL12 => ?_)
  refine f_goto rfl ?_
  refine f_il 0 rfl hL12 rfl ?_
  refine f_s [fi (4), fi (5)] rfl rfl ?_
  refine f_ic rfl (by decide) (by decide) (fun _ => ?_) (fun c_9 => absurd (show (4 : Int) < (5 : Int) from (by decide)) c_9)
  refine f_iln 1 rfl hL12 rfl ?_
  exact f_ret1 rfl ⟨by rw [show max (max (max (max (max (0) (Bt m 4 s)) (wF m 3 s 0)) (wF m 3 s 1)) (wF m 3 s 2)) (wF m 3 s 3) = Bt m 3 s from best_m (by decide) hs], hw10, hm10⟩)
theorem t130_3 {m m' : Nat → Nat → Int} (hn : 0 ≤ m 3 5 ∧ m 3 5 ≤ 4) (hv : ∀ k : Nat, 0 ≤ wo m (k : Int) ∧ wo m (k : Int) ≤ 9) (hn' : m' 3 5 = m 3 5) (h5 : ∀ k, m' 5 k = m 5 k) (hB : ∀ j : Nat, j < 16 → m' 50 j = Bt m 4 (j : Int)) (hF : m' 52 3 = fsC m 3) {s : Int} (hs : 0 ≤ s ∧ s ≤ 15) : h_M 130 [.ref 44, fi (3), fi (s)] m' (some (fi ((gd (vW m) (FW m 3) (LsF (FW m) 4 1) (ind s) : Int)))) m' := h_M_of (R := ev_r130) rfl (fun hc hw hm => by
  have hL : f_L (lv_args 0 [.ref 44, fi (3), fi (s)]) [(0, .ref 44), (1, fi (3)), (2, fi (s))] := f_L_of rfl
  generalize lv_args 0 [.ref 44, fi (3), fi (s)] = L at hL
  show x_W none (1, 0, 5, 2, 6, 4, 90, 0, 0, ev_t130) 0 L [] hc 0 0 _
  have hR := gi_R hm
  have r0 := Bt_r hv 4 s
  have r1 := wF_r hv 3 s 0
  have r2 := wF_r hv 3 s 1
  have r3 := wF_r hv 3 s 2
  have r4 := wF_r hv 3 s 3
  have r5 := Bt_r hv 3 s
  have eB : hg (vW m) (FW m 3 :: LsF (FW m) 4 1) (ind s) = Bt m 3 s := rfl
  have eN : hg (vW m) (LsF (FW m) 4 1) (ind s) = Bt m 4 s := rfl
  have gk9 : ∀ k : Nat, (gcB (vW m) (FW m 3) (LsF (FW m) 4 1) (ind s) k = true ↔ wF m 3 s k = Bt m 3 s) := fun k => by
    rcases wF_k (m := m) 3 hs (k := k) with ⟨a1, a2, a3⟩ | ⟨a1, a2⟩
    · unfold gcB
      rw [a1, decide_eq_true a2, Bool.true_and, Bool.true_and, decide_eq_true_iff, eB, a3]
    · refine ⟨fun z => absurd ⟨(gcB_t z).1, (gcB_t z).2.1⟩ a1, fun z => ?_⟩
      rw [a2] at z
      omega
  refine f_aln 0 rfl hL rfl ?_
  refine f_iln 1 rfl hL rfl ?_
  refine f_iln 2 rfl hL rfl ?_
  refine m_k1 (t128_3 hn hv hn' h5 hB hF hs) hw hm rfl rfl rfl (m_ar so44 hw rfl) rfl (fun hc1 hw1 hm1 => ?_)
  refine f_istn [(3, fi (Bt m 3 s)), (0, .ref 44), (1, fi (3)), (2, fi (s))] rfl (by decide) hL rfl (fun L1 hL1 => ?_)
  refine f_s [fi (0)] rfl rfl ?_
  refine f_ist [(4, fi (0)), (3, fi (Bt m 3 s)), (0, .ref 44), (1, fi (3)), (2, fi (s))] rfl (by decide) hL1 rfl (fun L2 hL2 => ?_)
  refine f_il 0 rfl hL2 rfl ?_
  refine f_s [fi (4), fi (0)] rfl rfl ?_
  refine f_ic rfl (by decide) (by decide) (fun c_9 => absurd (show (4 : Int) < (0 : Int) from c_9) (by decide)) (fun _ => ?_)
  refine f_aln 2 rfl hL2 rfl ?_
  refine f_iln 3 rfl hL2 rfl ?_
  refine f_iln 4 rfl hL2 rfl ?_
  refine f_il 0 rfl hL2 rfl ?_
  refine m_k1 (t127_30 hn hv hn' h5 hB hF hs) hw1 hm1 rfl rfl rfl (m_ar so44 hw1 rfl) rfl (fun hc2 hw2 hm2 => ?_)
  refine f_iln 1 rfl hL2 rfl ?_
  refine f_ic rfl (by omega) (by omega) (fun d0 => ?_) (fun d0 => ?_)
  · have d0 : ¬ (Bt m 4 s : Int) = (Bt m 3 s : Int) := d0
    refine f_inc 0 [(4, fi (1)), (3, fi (Bt m 3 s)), (0, .ref 44), (1, fi (3)), (2, fi (s))] rfl (by decide) hL2 rfl rfl (fun L3 hL3 => ?_)
    refine f_goto rfl ?_
    refine f_il 0 rfl hL3 rfl ?_
    refine f_s [fi (4), fi (1)] rfl rfl ?_
    refine f_ic rfl (by decide) (by decide) (fun c_9 => absurd (show (4 : Int) < (1 : Int) from c_9) (by decide)) (fun _ => ?_)
    refine f_aln 2 rfl hL3 rfl ?_
    refine f_iln 3 rfl hL3 rfl ?_
    refine f_iln 4 rfl hL3 rfl ?_
    refine f_il 0 rfl hL3 rfl ?_
    refine m_k1 (t127_31 hn hv hn' h5 hB hF hs) hw2 hm2 rfl rfl rfl (m_ar so44 hw2 rfl) rfl (fun hc3 hw3 hm3 => ?_)
    refine f_iln 1 rfl hL3 rfl ?_
    refine f_ic rfl (by omega) (by omega) (fun d1 => ?_) (fun d1 => ?_)
    · have d1 : ¬ (wF m 3 s 0 : Int) = (Bt m 3 s : Int) := d1
      refine f_inc 0 [(4, fi (2)), (3, fi (Bt m 3 s)), (0, .ref 44), (1, fi (3)), (2, fi (s))] rfl (by decide) hL3 rfl rfl (fun L4 hL4 => ?_)
      refine f_goto rfl ?_
      refine f_il 0 rfl hL4 rfl ?_
      refine f_s [fi (4), fi (2)] rfl rfl ?_
      refine f_ic rfl (by decide) (by decide) (fun c_9 => absurd (show (4 : Int) < (2 : Int) from c_9) (by decide)) (fun _ => ?_)
      refine f_aln 2 rfl hL4 rfl ?_
      refine f_iln 3 rfl hL4 rfl ?_
      refine f_iln 4 rfl hL4 rfl ?_
      refine f_il 0 rfl hL4 rfl ?_
      refine m_k1 (t127_32 hn hv hn' h5 hB hF hs) hw3 hm3 rfl rfl rfl (m_ar so44 hw3 rfl) rfl (fun hc4 hw4 hm4 => ?_)
      refine f_iln 1 rfl hL4 rfl ?_
      refine f_ic rfl (by omega) (by omega) (fun d2 => ?_) (fun d2 => ?_)
      · have d2 : ¬ (wF m 3 s 1 : Int) = (Bt m 3 s : Int) := d2
        refine f_inc 0 [(4, fi (3)), (3, fi (Bt m 3 s)), (0, .ref 44), (1, fi (3)), (2, fi (s))] rfl (by decide) hL4 rfl rfl (fun L5 hL5 => ?_)
        refine f_goto rfl ?_
        refine f_il 0 rfl hL5 rfl ?_
        refine f_s [fi (4), fi (3)] rfl rfl ?_
        refine f_ic rfl (by decide) (by decide) (fun c_9 => absurd (show (4 : Int) < (3 : Int) from c_9) (by decide)) (fun _ => ?_)
        refine f_aln 2 rfl hL5 rfl ?_
        refine f_iln 3 rfl hL5 rfl ?_
        refine f_iln 4 rfl hL5 rfl ?_
        refine f_il 0 rfl hL5 rfl ?_
        refine m_k1 (t127_33 hn hv hn' h5 hB hF hs) hw4 hm4 rfl rfl rfl (m_ar so44 hw4 rfl) rfl (fun hc5 hw5 hm5 => ?_)
        refine f_iln 1 rfl hL5 rfl ?_
        refine f_ic rfl (by omega) (by omega) (fun d3 => ?_) (fun d3 => ?_)
        · have d3 : ¬ (wF m 3 s 2 : Int) = (Bt m 3 s : Int) := d3
          refine f_inc 0 [(4, fi (4)), (3, fi (Bt m 3 s)), (0, .ref 44), (1, fi (3)), (2, fi (s))] rfl (by decide) hL5 rfl rfl (fun L6 hL6 => ?_)
          refine f_goto rfl ?_
          refine f_il 0 rfl hL6 rfl ?_
          refine f_s [fi (4), fi (4)] rfl rfl ?_
          refine f_ic rfl (by decide) (by decide) (fun c_9 => absurd (show (4 : Int) < (4 : Int) from c_9) (by decide)) (fun _ => ?_)
          refine f_aln 2 rfl hL6 rfl ?_
          refine f_iln 3 rfl hL6 rfl ?_
          refine f_iln 4 rfl hL6 rfl ?_
          refine f_il 0 rfl hL6 rfl ?_
          refine m_k1 (t127_34 hn hv hn' h5 hB hF hs) hw5 hm5 rfl rfl rfl (m_ar so44 hw5 rfl) rfl (fun hc6 hw6 hm6 => ?_)
          refine f_iln 1 rfl hL6 rfl ?_
          refine f_ic rfl (by omega) (by omega) (fun d4 => ?_) (fun d4 => ?_)
          · have d4 : ¬ (wF m 3 s 3 : Int) = (Bt m 3 s : Int) := d4
            refine f_inc 0 [(4, fi (5)), (3, fi (Bt m 3 s)), (0, .ref 44), (1, fi (3)), (2, fi (s))] rfl (by decide) hL6 rfl rfl (fun L7 hL7 => ?_)
            refine f_goto rfl ?_
            refine f_il 0 rfl hL7 rfl ?_
            refine f_s [fi (4), fi (5)] rfl rfl ?_
            refine f_ic rfl (by decide) (by decide) (fun _ => ?_) (fun c_9 => absurd (show (4 : Int) < (5 : Int) from (by decide)) c_9)
            refine f_s [fi (0)] rfl rfl ?_
            have e9 : gd (vW m) (FW m 3) (LsF (FW m) 4 1) (ind s) = 0 := by
              unfold gd
              rw [eB, eN, if_neg d0, if_neg (fun z => d1 ((gk9 0).mp z)), if_neg (fun z => d2 ((gk9 1).mp z)), if_neg (fun z => d3 ((gk9 2).mp z)), if_neg (fun z => d4 ((gk9 3).mp z))]
            exact f_ret1 rfl ⟨by rw [e9]; rfl, hw6, hm6⟩
          · have d4 : ¬ (¬ (wF m 3 s 3 : Int) = (Bt m 3 s : Int)) := d4
            have d4 : wF m 3 s 3 = Bt m 3 s := Classical.byContradiction d4
            refine f_il 0 rfl hL6 rfl ?_
            have e9 : gd (vW m) (FW m 3) (LsF (FW m) 4 1) (ind s) = 4 := by
              unfold gd
              rw [eB, eN, if_neg d0, if_neg (fun z => d1 ((gk9 0).mp z)), if_neg (fun z => d2 ((gk9 1).mp z)), if_neg (fun z => d3 ((gk9 2).mp z)), if_pos ((gk9 3).mpr d4)]
            exact f_ret1 rfl ⟨by rw [e9]; rfl, hw6, hm6⟩
        · have d3 : ¬ (¬ (wF m 3 s 2 : Int) = (Bt m 3 s : Int)) := d3
          have d3 : wF m 3 s 2 = Bt m 3 s := Classical.byContradiction d3
          refine f_il 0 rfl hL5 rfl ?_
          have e9 : gd (vW m) (FW m 3) (LsF (FW m) 4 1) (ind s) = 3 := by
            unfold gd
            rw [eB, eN, if_neg d0, if_neg (fun z => d1 ((gk9 0).mp z)), if_neg (fun z => d2 ((gk9 1).mp z)), if_pos ((gk9 2).mpr d3)]
          exact f_ret1 rfl ⟨by rw [e9]; rfl, hw5, hm5⟩
      · have d2 : ¬ (¬ (wF m 3 s 1 : Int) = (Bt m 3 s : Int)) := d2
        have d2 : wF m 3 s 1 = Bt m 3 s := Classical.byContradiction d2
        refine f_il 0 rfl hL4 rfl ?_
        have e9 : gd (vW m) (FW m 3) (LsF (FW m) 4 1) (ind s) = 2 := by
          unfold gd
          rw [eB, eN, if_neg d0, if_neg (fun z => d1 ((gk9 0).mp z)), if_pos ((gk9 1).mpr d2)]
        exact f_ret1 rfl ⟨by rw [e9]; rfl, hw4, hm4⟩
    · have d1 : ¬ (¬ (wF m 3 s 0 : Int) = (Bt m 3 s : Int)) := d1
      have d1 : wF m 3 s 0 = Bt m 3 s := Classical.byContradiction d1
      refine f_il 0 rfl hL3 rfl ?_
      have e9 : gd (vW m) (FW m 3) (LsF (FW m) 4 1) (ind s) = 1 := by
        unfold gd
        rw [eB, eN, if_neg d0, if_pos ((gk9 0).mpr d1)]
      exact f_ret1 rfl ⟨by rw [e9]; rfl, hw3, hm3⟩
  · have d0 : ¬ (¬ (Bt m 4 s : Int) = (Bt m 3 s : Int)) := d0
    have d0 : Bt m 4 s = Bt m 3 s := Classical.byContradiction d0
    refine f_il 0 rfl hL2 rfl ?_
    have e9 : gd (vW m) (FW m 3) (LsF (FW m) 4 1) (ind s) = 0 := by
      unfold gd
      rw [eB, eN, if_pos d0]
    exact f_ret1 rfl ⟨by rw [e9]; rfl, hw2, hm2⟩)
theorem t127_40 {m m' : Nat → Nat → Int} (hn : 0 ≤ m 3 5 ∧ m 3 5 ≤ 4) (hv : ∀ k : Nat, 0 ≤ wo m (k : Int) ∧ wo m (k : Int) ≤ 9) (hn' : m' 3 5 = m 3 5) (h5 : ∀ k, m' 5 k = m 5 k) (hB : ∀ j : Nat, j < 16 → m' 51 j = Bt m 5 (j : Int)) (hF : m' 52 4 = fsC m 4) {s : Int} (hs : 0 ≤ s ∧ s ≤ 15) : h_M 127 [.ref 44, fi (4), fi (s), fi (0)] m' (some (fi (Bt m 5 s))) m' := h_M_of (R := ev_r127) rfl (fun hc hw hm => by
  have hL : f_L (lv_args 0 [.ref 44, fi (4), fi (s), fi (0)]) [(0, .ref 44), (1, fi (4)), (2, fi (s)), (3, fi (0))] := f_L_of rfl
  generalize lv_args 0 [.ref 44, fi (4), fi (s), fi (0)] = L at hL
  show x_W none (1, 0, 5, 3, 6, 2, 42, 0, 0, ev_t127) 0 L [] hc 0 0 _
  have hR := gi_R hm
  refine f_iln 1 rfl hL rfl ?_
  refine f_if rfl (by decide) (fun c_9 => absurd (show (4 : Int) < (0 : Int) from c_9) (by decide)) (fun _ => ?_)
  refine f_iln 1 rfl hL rfl ?_
  refine f_s [fi (5), fi (4)] rfl rfl ?_
  refine f_ic rfl (by decide) (by decide) (fun c_9 => absurd (show (5 : Int) ≤ (4 : Int) from c_9) (by decide)) (fun _ => ?_)
  refine f_iln 2 rfl hL rfl ?_
  refine f_if rfl (by omega) (fun c_9 => absurd (show (s : Int) < (0 : Int) from c_9) (by omega)) (fun _ => ?_)
  refine f_iln 2 rfl hL rfl ?_
  refine f_bipush (n := 16) rfl (by decide) ?_
  refine f_ic rfl (by omega) (by decide) (fun _ => ?_) (fun c_9 => absurd (show (s : Int) < (16 : Int) from (by omega)) c_9)
  have jb := hB (s).toNat (by omega)
  rw [show (((s).toNat : Nat) : Int) = s by omega] at jb
  refine f_iln 3 rfl hL rfl ?_
  refine f_if rfl (by decide) (fun c_9 => absurd (show ¬ (0 : Int) = (0 : Int) from c_9) (by decide)) (fun _ => ?_)
  refine f_aln 0 rfl hL rfl ?_
  refine m_gfr so44 rfl hw rfl (by decide) ?_
  refine f_iln 1 rfl hL rfl ?_
  refine f_s [fi (1), fi (4), .ref 45] rfl rfl ?_
  refine f_iadd rfl ?_
  refine b_eq (x := 5) (by decide) ?_
  refine m_aa sr45 rfl hw (by omega) (by omega) (by decide) ?_
  refine f_iln 2 rfl hL rfl ?_
  refine m_ia sa51 (Bt m 5 s) rfl hw hm (by omega) (by omega) (by decide) jb ?_
  exact f_ret1 rfl ⟨rfl, hw, hm⟩)
theorem t127_41 {m m' : Nat → Nat → Int} (hn : 0 ≤ m 3 5 ∧ m 3 5 ≤ 4) (hv : ∀ k : Nat, 0 ≤ wo m (k : Int) ∧ wo m (k : Int) ≤ 9) (hn' : m' 3 5 = m 3 5) (h5 : ∀ k, m' 5 k = m 5 k) (hB : ∀ j : Nat, j < 16 → m' 51 j = Bt m 5 (j : Int)) (hF : m' 52 4 = fsC m 4) {s : Int} (hs : 0 ≤ s ∧ s ≤ 15) : h_M 127 [.ref 44, fi (4), fi (s), fi (1)] m' (some (fi (wF m 4 s 0))) m' := h_M_of (R := ev_r127) rfl (fun hc hw hm => by
  have hL : f_L (lv_args 0 [.ref 44, fi (4), fi (s), fi (1)]) [(0, .ref 44), (1, fi (4)), (2, fi (s)), (3, fi (1))] := f_L_of rfl
  generalize lv_args 0 [.ref 44, fi (4), fi (s), fi (1)] = L at hL
  show x_W none (1, 0, 5, 3, 6, 2, 42, 0, 0, ev_t127) 0 L [] hc 0 0 _
  have hR := gi_R hm
  refine f_iln 1 rfl hL rfl ?_
  refine f_if rfl (by decide) (fun c_9 => absurd (show (4 : Int) < (0 : Int) from c_9) (by decide)) (fun _ => ?_)
  refine f_iln 1 rfl hL rfl ?_
  refine f_s [fi (5), fi (4)] rfl rfl ?_
  refine f_ic rfl (by decide) (by decide) (fun c_9 => absurd (show (5 : Int) ≤ (4 : Int) from c_9) (by decide)) (fun _ => ?_)
  refine f_iln 2 rfl hL rfl ?_
  refine f_if rfl (by omega) (fun c_9 => absurd (show (s : Int) < (0 : Int) from c_9) (by omega)) (fun _ => ?_)
  refine f_iln 2 rfl hL rfl ?_
  refine f_bipush (n := 16) rfl (by decide) ?_
  refine f_ic rfl (by omega) (by decide) (fun _ => ?_) (fun c_9 => absurd (show (s : Int) < (16 : Int) from (by omega)) c_9)
  have F15 := fsC_15 hn 4
  have bk9 := (bit_k hs F15).1
  have s2 := s_15 (y := iX (iS (1) (0)) (-1)) hs
  have jb := hB (iA (s) (iX (iS (1) (0)) (-1))).toNat (by omega)
  rw [show (((iA (s) (iX (iS (1) (0)) (-1))).toNat : Nat) : Int) = iA (s) (iX (iS (1) (0)) (-1)) by omega] at jb
  refine f_iln 3 rfl hL rfl ?_
  refine f_if rfl (by decide) (fun _ => ?_) (fun c_9 => absurd (show ¬ (1 : Int) = (0 : Int) from (by decide)) c_9)
  refine f_s [fi (1)] rfl rfl ?_
  refine f_iln 3 rfl hL rfl ?_
  refine f_s [fi (1), fi (1), fi (1)] rfl rfl ?_
  refine f_isub rfl ?_
  refine b_eq (x := 0) (by decide) ?_
  refine b_ishl rfl ?_
  refine f_ist [(4, fi (iS (1) (0))), (0, .ref 44), (1, fi (4)), (2, fi (s)), (3, fi (1))] rfl (by decide) hL rfl (fun L1 hL1 => ?_)
  refine f_iln 3 rfl hL1 rfl ?_
  refine f_aln 1 rfl hL1 rfl ?_
  refine m_gfr so44 rfl hw rfl (by decide) ?_
  refine f_iln 2 rfl hL1 rfl ?_
  refine m_ia sa52 (fsC m 4) rfl hw hm (by omega) (by omega) (by decide) hF ?_
  refine b_iand rfl ?_
  refine f_il 0 rfl hL1 rfl ?_
  refine b_iand rfl ?_
  refine f_if rfl iA_r (fun c1 => ?_) (fun c1 => ?_)
  · have c1 : ¬ (iA (iA (s) (fsC m 4)) (iS (1) (0)) : Int) = (0 : Int) := c1
    refine f_aln 1 rfl hL1 rfl ?_
    refine m_gfr so44 rfl hw rfl (by decide) ?_
    refine f_iln 4 rfl hL1 rfl ?_
    refine f_s [fi (1), fi (1), .ref 3] rfl rfl ?_
    refine f_isub rfl ?_
    refine b_eq (x := 0) (by decide) ?_
    have t9 := t42 (m := m') (x := 0) (by rw [hn']; exact hn) (by decide)
    rw [wo_q hn' h5] at t9
    refine m_k1 t9 hw hm rfl rfl rfl (m_ar so3 hw rfl) rfl (fun hc1 hw1 hm1 => ?_)
    refine f_aln 1 rfl hL1 rfl ?_
    refine m_gfr so44 rfl hw1 rfl (by decide) ?_
    refine f_iln 2 rfl hL1 rfl ?_
    refine f_s [fi (1), fi (4), .ref 45, fi (wo m 0)] rfl rfl ?_
    refine f_iadd rfl ?_
    refine b_eq (x := 5) (by decide) ?_
    refine m_aa sr45 rfl hw1 (by omega) (by omega) (by decide) ?_
    refine f_iln 3 rfl hL1 rfl ?_
    refine f_il 0 rfl hL1 rfl ?_
    refine f_s [fi (-1), fi (iS (1) (0)), fi (s), .ref 51, fi (wo m 0)] rfl rfl ?_
    refine b_ixor rfl ?_
    refine b_iand rfl ?_
    refine m_ia sa51 (Bt m 5 (iA (s) (iX (iS (1) (0)) (-1)))) rfl hw1 hm1 (by omega) (by omega) (by decide) jb ?_
    refine f_iadd rfl ?_
    exact f_ret1 rfl ⟨by rw [show wF m 4 s 0 = wo m 0 + Bt m 5 (iA (s) (iX (iS (1) (0)) (-1))) from if_pos (by rw [decide_eq_true c1] at bk9; have := bk9.symm; rw [Bool.and_eq_true] at this; exact this)], hw1, hm1⟩
  · have c1 : ¬ (¬ (iA (iA (s) (fsC m 4)) (iS (1) (0)) : Int) = (0 : Int)) := c1
    refine f_bipush (n := -9) rfl (by decide) ?_
    exact f_ret1 rfl ⟨by rw [show wF m 4 s 0 = -9 from if_neg (fun z => by rw [decide_eq_false c1] at bk9; have y : (tB s 0 && tB (fsC m 4) 0) = true := (by rw [Bool.and_eq_true]; exact z); rw [← bk9] at y; cases y)], hw, hm⟩)
theorem t127_42 {m m' : Nat → Nat → Int} (hn : 0 ≤ m 3 5 ∧ m 3 5 ≤ 4) (hv : ∀ k : Nat, 0 ≤ wo m (k : Int) ∧ wo m (k : Int) ≤ 9) (hn' : m' 3 5 = m 3 5) (h5 : ∀ k, m' 5 k = m 5 k) (hB : ∀ j : Nat, j < 16 → m' 51 j = Bt m 5 (j : Int)) (hF : m' 52 4 = fsC m 4) {s : Int} (hs : 0 ≤ s ∧ s ≤ 15) : h_M 127 [.ref 44, fi (4), fi (s), fi (2)] m' (some (fi (wF m 4 s 1))) m' := h_M_of (R := ev_r127) rfl (fun hc hw hm => by
  have hL : f_L (lv_args 0 [.ref 44, fi (4), fi (s), fi (2)]) [(0, .ref 44), (1, fi (4)), (2, fi (s)), (3, fi (2))] := f_L_of rfl
  generalize lv_args 0 [.ref 44, fi (4), fi (s), fi (2)] = L at hL
  show x_W none (1, 0, 5, 3, 6, 2, 42, 0, 0, ev_t127) 0 L [] hc 0 0 _
  have hR := gi_R hm
  refine f_iln 1 rfl hL rfl ?_
  refine f_if rfl (by decide) (fun c_9 => absurd (show (4 : Int) < (0 : Int) from c_9) (by decide)) (fun _ => ?_)
  refine f_iln 1 rfl hL rfl ?_
  refine f_s [fi (5), fi (4)] rfl rfl ?_
  refine f_ic rfl (by decide) (by decide) (fun c_9 => absurd (show (5 : Int) ≤ (4 : Int) from c_9) (by decide)) (fun _ => ?_)
  refine f_iln 2 rfl hL rfl ?_
  refine f_if rfl (by omega) (fun c_9 => absurd (show (s : Int) < (0 : Int) from c_9) (by omega)) (fun _ => ?_)
  refine f_iln 2 rfl hL rfl ?_
  refine f_bipush (n := 16) rfl (by decide) ?_
  refine f_ic rfl (by omega) (by decide) (fun _ => ?_) (fun c_9 => absurd (show (s : Int) < (16 : Int) from (by omega)) c_9)
  have F15 := fsC_15 hn 4
  have bk9 := (bit_k hs F15).2.1
  have s2 := s_15 (y := iX (iS (1) (1)) (-1)) hs
  have jb := hB (iA (s) (iX (iS (1) (1)) (-1))).toNat (by omega)
  rw [show (((iA (s) (iX (iS (1) (1)) (-1))).toNat : Nat) : Int) = iA (s) (iX (iS (1) (1)) (-1)) by omega] at jb
  refine f_iln 3 rfl hL rfl ?_
  refine f_if rfl (by decide) (fun _ => ?_) (fun c_9 => absurd (show ¬ (2 : Int) = (0 : Int) from (by decide)) c_9)
  refine f_s [fi (1)] rfl rfl ?_
  refine f_iln 3 rfl hL rfl ?_
  refine f_s [fi (1), fi (2), fi (1)] rfl rfl ?_
  refine f_isub rfl ?_
  refine b_eq (x := 1) (by decide) ?_
  refine b_ishl rfl ?_
  refine f_ist [(4, fi (iS (1) (1))), (0, .ref 44), (1, fi (4)), (2, fi (s)), (3, fi (2))] rfl (by decide) hL rfl (fun L1 hL1 => ?_)
  refine f_iln 3 rfl hL1 rfl ?_
  refine f_aln 1 rfl hL1 rfl ?_
  refine m_gfr so44 rfl hw rfl (by decide) ?_
  refine f_iln 2 rfl hL1 rfl ?_
  refine m_ia sa52 (fsC m 4) rfl hw hm (by omega) (by omega) (by decide) hF ?_
  refine b_iand rfl ?_
  refine f_il 0 rfl hL1 rfl ?_
  refine b_iand rfl ?_
  refine f_if rfl iA_r (fun c1 => ?_) (fun c1 => ?_)
  · have c1 : ¬ (iA (iA (s) (fsC m 4)) (iS (1) (1)) : Int) = (0 : Int) := c1
    refine f_aln 1 rfl hL1 rfl ?_
    refine m_gfr so44 rfl hw rfl (by decide) ?_
    refine f_iln 4 rfl hL1 rfl ?_
    refine f_s [fi (1), fi (2), .ref 3] rfl rfl ?_
    refine f_isub rfl ?_
    refine b_eq (x := 1) (by decide) ?_
    have t9 := t42 (m := m') (x := 1) (by rw [hn']; exact hn) (by decide)
    rw [wo_q hn' h5] at t9
    refine m_k1 t9 hw hm rfl rfl rfl (m_ar so3 hw rfl) rfl (fun hc1 hw1 hm1 => ?_)
    refine f_aln 1 rfl hL1 rfl ?_
    refine m_gfr so44 rfl hw1 rfl (by decide) ?_
    refine f_iln 2 rfl hL1 rfl ?_
    refine f_s [fi (1), fi (4), .ref 45, fi (wo m 1)] rfl rfl ?_
    refine f_iadd rfl ?_
    refine b_eq (x := 5) (by decide) ?_
    refine m_aa sr45 rfl hw1 (by omega) (by omega) (by decide) ?_
    refine f_iln 3 rfl hL1 rfl ?_
    refine f_il 0 rfl hL1 rfl ?_
    refine f_s [fi (-1), fi (iS (1) (1)), fi (s), .ref 51, fi (wo m 1)] rfl rfl ?_
    refine b_ixor rfl ?_
    refine b_iand rfl ?_
    refine m_ia sa51 (Bt m 5 (iA (s) (iX (iS (1) (1)) (-1)))) rfl hw1 hm1 (by omega) (by omega) (by decide) jb ?_
    refine f_iadd rfl ?_
    exact f_ret1 rfl ⟨by rw [show wF m 4 s 1 = wo m 1 + Bt m 5 (iA (s) (iX (iS (1) (1)) (-1))) from if_pos (by rw [decide_eq_true c1] at bk9; have := bk9.symm; rw [Bool.and_eq_true] at this; exact this)], hw1, hm1⟩
  · have c1 : ¬ (¬ (iA (iA (s) (fsC m 4)) (iS (1) (1)) : Int) = (0 : Int)) := c1
    refine f_bipush (n := -9) rfl (by decide) ?_
    exact f_ret1 rfl ⟨by rw [show wF m 4 s 1 = -9 from if_neg (fun z => by rw [decide_eq_false c1] at bk9; have y : (tB s 1 && tB (fsC m 4) 1) = true := (by rw [Bool.and_eq_true]; exact z); rw [← bk9] at y; cases y)], hw, hm⟩)
theorem t127_43 {m m' : Nat → Nat → Int} (hn : 0 ≤ m 3 5 ∧ m 3 5 ≤ 4) (hv : ∀ k : Nat, 0 ≤ wo m (k : Int) ∧ wo m (k : Int) ≤ 9) (hn' : m' 3 5 = m 3 5) (h5 : ∀ k, m' 5 k = m 5 k) (hB : ∀ j : Nat, j < 16 → m' 51 j = Bt m 5 (j : Int)) (hF : m' 52 4 = fsC m 4) {s : Int} (hs : 0 ≤ s ∧ s ≤ 15) : h_M 127 [.ref 44, fi (4), fi (s), fi (3)] m' (some (fi (wF m 4 s 2))) m' := h_M_of (R := ev_r127) rfl (fun hc hw hm => by
  have hL : f_L (lv_args 0 [.ref 44, fi (4), fi (s), fi (3)]) [(0, .ref 44), (1, fi (4)), (2, fi (s)), (3, fi (3))] := f_L_of rfl
  generalize lv_args 0 [.ref 44, fi (4), fi (s), fi (3)] = L at hL
  show x_W none (1, 0, 5, 3, 6, 2, 42, 0, 0, ev_t127) 0 L [] hc 0 0 _
  have hR := gi_R hm
  refine f_iln 1 rfl hL rfl ?_
  refine f_if rfl (by decide) (fun c_9 => absurd (show (4 : Int) < (0 : Int) from c_9) (by decide)) (fun _ => ?_)
  refine f_iln 1 rfl hL rfl ?_
  refine f_s [fi (5), fi (4)] rfl rfl ?_
  refine f_ic rfl (by decide) (by decide) (fun c_9 => absurd (show (5 : Int) ≤ (4 : Int) from c_9) (by decide)) (fun _ => ?_)
  refine f_iln 2 rfl hL rfl ?_
  refine f_if rfl (by omega) (fun c_9 => absurd (show (s : Int) < (0 : Int) from c_9) (by omega)) (fun _ => ?_)
  refine f_iln 2 rfl hL rfl ?_
  refine f_bipush (n := 16) rfl (by decide) ?_
  refine f_ic rfl (by omega) (by decide) (fun _ => ?_) (fun c_9 => absurd (show (s : Int) < (16 : Int) from (by omega)) c_9)
  have F15 := fsC_15 hn 4
  have bk9 := (bit_k hs F15).2.2.1
  have s2 := s_15 (y := iX (iS (1) (2)) (-1)) hs
  have jb := hB (iA (s) (iX (iS (1) (2)) (-1))).toNat (by omega)
  rw [show (((iA (s) (iX (iS (1) (2)) (-1))).toNat : Nat) : Int) = iA (s) (iX (iS (1) (2)) (-1)) by omega] at jb
  refine f_iln 3 rfl hL rfl ?_
  refine f_if rfl (by decide) (fun _ => ?_) (fun c_9 => absurd (show ¬ (3 : Int) = (0 : Int) from (by decide)) c_9)
  refine f_s [fi (1)] rfl rfl ?_
  refine f_iln 3 rfl hL rfl ?_
  refine f_s [fi (1), fi (3), fi (1)] rfl rfl ?_
  refine f_isub rfl ?_
  refine b_eq (x := 2) (by decide) ?_
  refine b_ishl rfl ?_
  refine f_ist [(4, fi (iS (1) (2))), (0, .ref 44), (1, fi (4)), (2, fi (s)), (3, fi (3))] rfl (by decide) hL rfl (fun L1 hL1 => ?_)
  refine f_iln 3 rfl hL1 rfl ?_
  refine f_aln 1 rfl hL1 rfl ?_
  refine m_gfr so44 rfl hw rfl (by decide) ?_
  refine f_iln 2 rfl hL1 rfl ?_
  refine m_ia sa52 (fsC m 4) rfl hw hm (by omega) (by omega) (by decide) hF ?_
  refine b_iand rfl ?_
  refine f_il 0 rfl hL1 rfl ?_
  refine b_iand rfl ?_
  refine f_if rfl iA_r (fun c1 => ?_) (fun c1 => ?_)
  · have c1 : ¬ (iA (iA (s) (fsC m 4)) (iS (1) (2)) : Int) = (0 : Int) := c1
    refine f_aln 1 rfl hL1 rfl ?_
    refine m_gfr so44 rfl hw rfl (by decide) ?_
    refine f_iln 4 rfl hL1 rfl ?_
    refine f_s [fi (1), fi (3), .ref 3] rfl rfl ?_
    refine f_isub rfl ?_
    refine b_eq (x := 2) (by decide) ?_
    have t9 := t42 (m := m') (x := 2) (by rw [hn']; exact hn) (by decide)
    rw [wo_q hn' h5] at t9
    refine m_k1 t9 hw hm rfl rfl rfl (m_ar so3 hw rfl) rfl (fun hc1 hw1 hm1 => ?_)
    refine f_aln 1 rfl hL1 rfl ?_
    refine m_gfr so44 rfl hw1 rfl (by decide) ?_
    refine f_iln 2 rfl hL1 rfl ?_
    refine f_s [fi (1), fi (4), .ref 45, fi (wo m 2)] rfl rfl ?_
    refine f_iadd rfl ?_
    refine b_eq (x := 5) (by decide) ?_
    refine m_aa sr45 rfl hw1 (by omega) (by omega) (by decide) ?_
    refine f_iln 3 rfl hL1 rfl ?_
    refine f_il 0 rfl hL1 rfl ?_
    refine f_s [fi (-1), fi (iS (1) (2)), fi (s), .ref 51, fi (wo m 2)] rfl rfl ?_
    refine b_ixor rfl ?_
    refine b_iand rfl ?_
    refine m_ia sa51 (Bt m 5 (iA (s) (iX (iS (1) (2)) (-1)))) rfl hw1 hm1 (by omega) (by omega) (by decide) jb ?_
    refine f_iadd rfl ?_
    exact f_ret1 rfl ⟨by rw [show wF m 4 s 2 = wo m 2 + Bt m 5 (iA (s) (iX (iS (1) (2)) (-1))) from if_pos (by rw [decide_eq_true c1] at bk9; have := bk9.symm; rw [Bool.and_eq_true] at this; exact this)], hw1, hm1⟩
  · have c1 : ¬ (¬ (iA (iA (s) (fsC m 4)) (iS (1) (2)) : Int) = (0 : Int)) := c1
    refine f_bipush (n := -9) rfl (by decide) ?_
    exact f_ret1 rfl ⟨by rw [show wF m 4 s 2 = -9 from if_neg (fun z => by rw [decide_eq_false c1] at bk9; have y : (tB s 2 && tB (fsC m 4) 2) = true := (by rw [Bool.and_eq_true]; exact z); rw [← bk9] at y; cases y)], hw, hm⟩)
theorem t127_44 {m m' : Nat → Nat → Int} (hn : 0 ≤ m 3 5 ∧ m 3 5 ≤ 4) (hv : ∀ k : Nat, 0 ≤ wo m (k : Int) ∧ wo m (k : Int) ≤ 9) (hn' : m' 3 5 = m 3 5) (h5 : ∀ k, m' 5 k = m 5 k) (hB : ∀ j : Nat, j < 16 → m' 51 j = Bt m 5 (j : Int)) (hF : m' 52 4 = fsC m 4) {s : Int} (hs : 0 ≤ s ∧ s ≤ 15) : h_M 127 [.ref 44, fi (4), fi (s), fi (4)] m' (some (fi (wF m 4 s 3))) m' := h_M_of (R := ev_r127) rfl (fun hc hw hm => by
  have hL : f_L (lv_args 0 [.ref 44, fi (4), fi (s), fi (4)]) [(0, .ref 44), (1, fi (4)), (2, fi (s)), (3, fi (4))] := f_L_of rfl
  generalize lv_args 0 [.ref 44, fi (4), fi (s), fi (4)] = L at hL
  show x_W none (1, 0, 5, 3, 6, 2, 42, 0, 0, ev_t127) 0 L [] hc 0 0 _
  have hR := gi_R hm
  refine f_iln 1 rfl hL rfl ?_
  refine f_if rfl (by decide) (fun c_9 => absurd (show (4 : Int) < (0 : Int) from c_9) (by decide)) (fun _ => ?_)
  refine f_iln 1 rfl hL rfl ?_
  refine f_s [fi (5), fi (4)] rfl rfl ?_
  refine f_ic rfl (by decide) (by decide) (fun c_9 => absurd (show (5 : Int) ≤ (4 : Int) from c_9) (by decide)) (fun _ => ?_)
  refine f_iln 2 rfl hL rfl ?_
  refine f_if rfl (by omega) (fun c_9 => absurd (show (s : Int) < (0 : Int) from c_9) (by omega)) (fun _ => ?_)
  refine f_iln 2 rfl hL rfl ?_
  refine f_bipush (n := 16) rfl (by decide) ?_
  refine f_ic rfl (by omega) (by decide) (fun _ => ?_) (fun c_9 => absurd (show (s : Int) < (16 : Int) from (by omega)) c_9)
  have F15 := fsC_15 hn 4
  have bk9 := (bit_k hs F15).2.2.2
  have s2 := s_15 (y := iX (iS (1) (3)) (-1)) hs
  have jb := hB (iA (s) (iX (iS (1) (3)) (-1))).toNat (by omega)
  rw [show (((iA (s) (iX (iS (1) (3)) (-1))).toNat : Nat) : Int) = iA (s) (iX (iS (1) (3)) (-1)) by omega] at jb
  refine f_iln 3 rfl hL rfl ?_
  refine f_if rfl (by decide) (fun _ => ?_) (fun c_9 => absurd (show ¬ (4 : Int) = (0 : Int) from (by decide)) c_9)
  refine f_s [fi (1)] rfl rfl ?_
  refine f_iln 3 rfl hL rfl ?_
  refine f_s [fi (1), fi (4), fi (1)] rfl rfl ?_
  refine f_isub rfl ?_
  refine b_eq (x := 3) (by decide) ?_
  refine b_ishl rfl ?_
  refine f_ist [(4, fi (iS (1) (3))), (0, .ref 44), (1, fi (4)), (2, fi (s)), (3, fi (4))] rfl (by decide) hL rfl (fun L1 hL1 => ?_)
  refine f_iln 3 rfl hL1 rfl ?_
  refine f_aln 1 rfl hL1 rfl ?_
  refine m_gfr so44 rfl hw rfl (by decide) ?_
  refine f_iln 2 rfl hL1 rfl ?_
  refine m_ia sa52 (fsC m 4) rfl hw hm (by omega) (by omega) (by decide) hF ?_
  refine b_iand rfl ?_
  refine f_il 0 rfl hL1 rfl ?_
  refine b_iand rfl ?_
  refine f_if rfl iA_r (fun c1 => ?_) (fun c1 => ?_)
  · have c1 : ¬ (iA (iA (s) (fsC m 4)) (iS (1) (3)) : Int) = (0 : Int) := c1
    refine f_aln 1 rfl hL1 rfl ?_
    refine m_gfr so44 rfl hw rfl (by decide) ?_
    refine f_iln 4 rfl hL1 rfl ?_
    refine f_s [fi (1), fi (4), .ref 3] rfl rfl ?_
    refine f_isub rfl ?_
    refine b_eq (x := 3) (by decide) ?_
    have t9 := t42 (m := m') (x := 3) (by rw [hn']; exact hn) (by decide)
    rw [wo_q hn' h5] at t9
    refine m_k1 t9 hw hm rfl rfl rfl (m_ar so3 hw rfl) rfl (fun hc1 hw1 hm1 => ?_)
    refine f_aln 1 rfl hL1 rfl ?_
    refine m_gfr so44 rfl hw1 rfl (by decide) ?_
    refine f_iln 2 rfl hL1 rfl ?_
    refine f_s [fi (1), fi (4), .ref 45, fi (wo m 3)] rfl rfl ?_
    refine f_iadd rfl ?_
    refine b_eq (x := 5) (by decide) ?_
    refine m_aa sr45 rfl hw1 (by omega) (by omega) (by decide) ?_
    refine f_iln 3 rfl hL1 rfl ?_
    refine f_il 0 rfl hL1 rfl ?_
    refine f_s [fi (-1), fi (iS (1) (3)), fi (s), .ref 51, fi (wo m 3)] rfl rfl ?_
    refine b_ixor rfl ?_
    refine b_iand rfl ?_
    refine m_ia sa51 (Bt m 5 (iA (s) (iX (iS (1) (3)) (-1)))) rfl hw1 hm1 (by omega) (by omega) (by decide) jb ?_
    refine f_iadd rfl ?_
    exact f_ret1 rfl ⟨by rw [show wF m 4 s 3 = wo m 3 + Bt m 5 (iA (s) (iX (iS (1) (3)) (-1))) from if_pos (by rw [decide_eq_true c1] at bk9; have := bk9.symm; rw [Bool.and_eq_true] at this; exact this)], hw1, hm1⟩
  · have c1 : ¬ (¬ (iA (iA (s) (fsC m 4)) (iS (1) (3)) : Int) = (0 : Int)) := c1
    refine f_bipush (n := -9) rfl (by decide) ?_
    exact f_ret1 rfl ⟨by rw [show wF m 4 s 3 = -9 from if_neg (fun z => by rw [decide_eq_false c1] at bk9; have y : (tB s 3 && tB (fsC m 4) 3) = true := (by rw [Bool.and_eq_true]; exact z); rw [← bk9] at y; cases y)], hw, hm⟩)
theorem t128_4 {m m' : Nat → Nat → Int} (hn : 0 ≤ m 3 5 ∧ m 3 5 ≤ 4) (hv : ∀ k : Nat, 0 ≤ wo m (k : Int) ∧ wo m (k : Int) ≤ 9) (hn' : m' 3 5 = m 3 5) (h5 : ∀ k, m' 5 k = m 5 k) (hB : ∀ j : Nat, j < 16 → m' 51 j = Bt m 5 (j : Int)) (hF : m' 52 4 = fsC m 4) {s : Int} (hs : 0 ≤ s ∧ s ≤ 15) : h_M 128 [.ref 44, fi (4), fi (s)] m' (some (fi (Bt m 4 s))) m' := h_M_of (R := ev_r128) rfl (fun hc hw hm => by
  have hL : f_L (lv_args 0 [.ref 44, fi (4), fi (s)]) [(0, .ref 44), (1, fi (4)), (2, fi (s))] := f_L_of rfl
  generalize lv_args 0 [.ref 44, fi (4), fi (s)] = L at hL
  show x_W none (1, 0, 5, 2, 6, 3, 66, 0, 0, ev_t128) 0 L [] hc 0 0 _
  have hR := gi_R hm
  have r0 := Bt_r hv 5 s
  have r1 := wF_r hv 4 s 0
  have r2 := wF_r hv 4 s 1
  have r3 := wF_r hv 4 s 2
  have r4 := wF_r hv 4 s 3
  refine f_s [fi (0)] rfl rfl ?_
  refine f_istn [(3, fi (0)), (0, .ref 44), (1, fi (4)), (2, fi (s))] rfl (by decide) hL rfl (fun L1 hL1 => ?_)
  refine f_s [fi (0)] rfl rfl ?_
  refine f_ist [(4, fi (0)), (3, fi (0)), (0, .ref 44), (1, fi (4)), (2, fi (s))] rfl (by decide) hL1 rfl (fun L2 hL2 => ?_)
  refine f_il 0 rfl hL2 rfl ?_
  refine f_s [fi (4), fi (0)] rfl rfl ?_
  refine f_ic rfl (by decide) (by decide) (fun c_9 => absurd (show (4 : Int) < (0 : Int) from c_9) (by decide)) (fun _ => ?_)
  refine f_iln 1 rfl hL2 rfl ?_
  refine f_aln 2 rfl hL2 rfl ?_
  refine f_iln 3 rfl hL2 rfl ?_
  refine f_iln 4 rfl hL2 rfl ?_
  refine f_il 0 rfl hL2 rfl ?_
  refine m_k1 (t127_40 hn hv hn' h5 hB hF hs) hw hm rfl rfl rfl (m_ar so44 hw rfl) rfl (fun hc1 hw1 hm1 => ?_)
  refine m_k1 (t106 (x := 0) (y := Bt m 5 s) (by omega) (by omega)) hw1 hm1 rfl rfl rfl rfl rfl (fun hc2 hw2 hm2 => ?_)
  refine f_istn [(3, fi (max (0) (Bt m 5 s))), (4, fi (0)), (0, .ref 44), (1, fi (4)), (2, fi (s))] rfl (by decide) hL2 rfl (fun L3 hL3 => ?_)
  refine f_inc 1 [(4, fi (1)), (3, fi (max (0) (Bt m 5 s))), (0, .ref 44), (1, fi (4)), (2, fi (s))] rfl (by decide) hL3 rfl rfl (fun L4 hL4 => ?_)
  refine f_goto rfl ?_
  refine f_il 0 rfl hL4 rfl ?_
  refine f_s [fi (4), fi (1)] rfl rfl ?_
  refine f_ic rfl (by decide) (by decide) (fun c_9 => absurd (show (4 : Int) < (1 : Int) from c_9) (by decide)) (fun _ => ?_)
  refine f_iln 1 rfl hL4 rfl ?_
  refine f_aln 2 rfl hL4 rfl ?_
  refine f_iln 3 rfl hL4 rfl ?_
  refine f_iln 4 rfl hL4 rfl ?_
  refine f_il 0 rfl hL4 rfl ?_
  refine m_k1 (t127_41 hn hv hn' h5 hB hF hs) hw2 hm2 rfl rfl rfl (m_ar so44 hw2 rfl) rfl (fun hc3 hw3 hm3 => ?_)
  refine m_k1 (t106 (x := max (0) (Bt m 5 s)) (y := wF m 4 s 0) (by omega) (by omega)) hw3 hm3 rfl rfl rfl rfl rfl (fun hc4 hw4 hm4 => ?_)
  refine f_istn [(3, fi (max (max (0) (Bt m 5 s)) (wF m 4 s 0))), (4, fi (1)), (0, .ref 44), (1, fi (4)), (2, fi (s))] rfl (by decide) hL4 rfl (fun L5 hL5 => ?_)
  refine f_inc 1 [(4, fi (2)), (3, fi (max (max (0) (Bt m 5 s)) (wF m 4 s 0))), (0, .ref 44), (1, fi (4)), (2, fi (s))] rfl (by decide) hL5 rfl rfl (fun L6 hL6 => ?_)
  refine f_goto rfl ?_
  refine f_il 0 rfl hL6 rfl ?_
  refine f_s [fi (4), fi (2)] rfl rfl ?_
  refine f_ic rfl (by decide) (by decide) (fun c_9 => absurd (show (4 : Int) < (2 : Int) from c_9) (by decide)) (fun _ => ?_)
  refine f_iln 1 rfl hL6 rfl ?_
  refine f_aln 2 rfl hL6 rfl ?_
  refine f_iln 3 rfl hL6 rfl ?_
  refine f_iln 4 rfl hL6 rfl ?_
  refine f_il 0 rfl hL6 rfl ?_
  refine m_k1 (t127_42 hn hv hn' h5 hB hF hs) hw4 hm4 rfl rfl rfl (m_ar so44 hw4 rfl) rfl (fun hc5 hw5 hm5 => ?_)
  refine m_k1 (t106 (x := max (max (0) (Bt m 5 s)) (wF m 4 s 0)) (y := wF m 4 s 1) (by omega) (by omega)) hw5 hm5 rfl rfl rfl rfl rfl (fun hc6 hw6 hm6 => ?_)
  refine f_istn [(3, fi (max (max (max (0) (Bt m 5 s)) (wF m 4 s 0)) (wF m 4 s 1))), (4, fi (2)), (0, .ref 44), (1, fi (4)), (2, fi (s))] rfl (by decide) hL6 rfl (fun L7 hL7 => ?_)
  refine f_inc 1 [(4, fi (3)), (3, fi (max (max (max (0) (Bt m 5 s)) (wF m 4 s 0)) (wF m 4 s 1))), (0, .ref 44), (1, fi (4)), (2, fi (s))] rfl (by decide) hL7 rfl rfl (fun L8 hL8 => ?_)
  refine f_goto rfl ?_
  refine f_il 0 rfl hL8 rfl ?_
  refine f_s [fi (4), fi (3)] rfl rfl ?_
  refine f_ic rfl (by decide) (by decide) (fun c_9 => absurd (show (4 : Int) < (3 : Int) from c_9) (by decide)) (fun _ => ?_)
  refine f_iln 1 rfl hL8 rfl ?_
  refine f_aln 2 rfl hL8 rfl ?_
  refine f_iln 3 rfl hL8 rfl ?_
  refine f_iln 4 rfl hL8 rfl ?_
  refine f_il 0 rfl hL8 rfl ?_
  refine m_k1 (t127_43 hn hv hn' h5 hB hF hs) hw6 hm6 rfl rfl rfl (m_ar so44 hw6 rfl) rfl (fun hc7 hw7 hm7 => ?_)
  refine m_k1 (t106 (x := max (max (max (0) (Bt m 5 s)) (wF m 4 s 0)) (wF m 4 s 1)) (y := wF m 4 s 2) (by omega) (by omega)) hw7 hm7 rfl rfl rfl rfl rfl (fun hc8 hw8 hm8 => ?_)
  refine f_istn [(3, fi (max (max (max (max (0) (Bt m 5 s)) (wF m 4 s 0)) (wF m 4 s 1)) (wF m 4 s 2))), (4, fi (3)), (0, .ref 44), (1, fi (4)), (2, fi (s))] rfl (by decide) hL8 rfl (fun L9 hL9 => ?_)
  refine f_inc 1 [(4, fi (4)), (3, fi (max (max (max (max (0) (Bt m 5 s)) (wF m 4 s 0)) (wF m 4 s 1)) (wF m 4 s 2))), (0, .ref 44), (1, fi (4)), (2, fi (s))] rfl (by decide) hL9 rfl rfl (fun L10 hL10 => ?_)
  refine f_goto rfl ?_
  refine f_il 0 rfl hL10 rfl ?_
  refine f_s [fi (4), fi (4)] rfl rfl ?_
  refine f_ic rfl (by decide) (by decide) (fun c_9 => absurd (show (4 : Int) < (4 : Int) from c_9) (by decide)) (fun _ => ?_)
  refine f_iln 1 rfl hL10 rfl ?_
  refine f_aln 2 rfl hL10 rfl ?_
  refine f_iln 3 rfl hL10 rfl ?_
  refine f_iln 4 rfl hL10 rfl ?_
  refine f_il 0 rfl hL10 rfl ?_
  refine m_k1 (t127_44 hn hv hn' h5 hB hF hs) hw8 hm8 rfl rfl rfl (m_ar so44 hw8 rfl) rfl (fun hc9 hw9 hm9 => ?_)
  refine m_k1 (t106 (x := max (max (max (max (0) (Bt m 5 s)) (wF m 4 s 0)) (wF m 4 s 1)) (wF m 4 s 2)) (y := wF m 4 s 3) (by omega) (by omega)) hw9 hm9 rfl rfl rfl rfl rfl (fun hc10 hw10 hm10 => ?_)
  refine f_istn [(3, fi (max (max (max (max (max (0) (Bt m 5 s)) (wF m 4 s 0)) (wF m 4 s 1)) (wF m 4 s 2)) (wF m 4 s 3))), (4, fi (4)), (0, .ref 44), (1, fi (4)), (2, fi (s))] rfl (by decide) hL10 rfl (fun L11 hL11 => ?_)
  refine f_inc 1 [(4, fi (5)), (3, fi (max (max (max (max (max (0) (Bt m 5 s)) (wF m 4 s 0)) (wF m 4 s 1)) (wF m 4 s 2)) (wF m 4 s 3))), (0, .ref 44), (1, fi (4)), (2, fi (s))] rfl (by decide) hL11 rfl rfl (fun L12 hL12 => ?_)
  refine f_goto rfl ?_
  refine f_il 0 rfl hL12 rfl ?_
  refine f_s [fi (4), fi (5)] rfl rfl ?_
  refine f_ic rfl (by decide) (by decide) (fun _ => ?_) (fun c_9 => absurd (show (4 : Int) < (5 : Int) from (by decide)) c_9)
  refine f_iln 1 rfl hL12 rfl ?_
  exact f_ret1 rfl ⟨by rw [show max (max (max (max (max (0) (Bt m 5 s)) (wF m 4 s 0)) (wF m 4 s 1)) (wF m 4 s 2)) (wF m 4 s 3) = Bt m 4 s from best_m (by decide) hs], hw10, hm10⟩)
theorem t130_4 {m m' : Nat → Nat → Int} (hn : 0 ≤ m 3 5 ∧ m 3 5 ≤ 4) (hv : ∀ k : Nat, 0 ≤ wo m (k : Int) ∧ wo m (k : Int) ≤ 9) (hn' : m' 3 5 = m 3 5) (h5 : ∀ k, m' 5 k = m 5 k) (hB : ∀ j : Nat, j < 16 → m' 51 j = Bt m 5 (j : Int)) (hF : m' 52 4 = fsC m 4) {s : Int} (hs : 0 ≤ s ∧ s ≤ 15) : h_M 130 [.ref 44, fi (4), fi (s)] m' (some (fi ((gd (vW m) (FW m 4) (LsF (FW m) 5 0) (ind s) : Int)))) m' := h_M_of (R := ev_r130) rfl (fun hc hw hm => by
  have hL : f_L (lv_args 0 [.ref 44, fi (4), fi (s)]) [(0, .ref 44), (1, fi (4)), (2, fi (s))] := f_L_of rfl
  generalize lv_args 0 [.ref 44, fi (4), fi (s)] = L at hL
  show x_W none (1, 0, 5, 2, 6, 4, 90, 0, 0, ev_t130) 0 L [] hc 0 0 _
  have hR := gi_R hm
  have r0 := Bt_r hv 5 s
  have r1 := wF_r hv 4 s 0
  have r2 := wF_r hv 4 s 1
  have r3 := wF_r hv 4 s 2
  have r4 := wF_r hv 4 s 3
  have r5 := Bt_r hv 4 s
  have eB : hg (vW m) (FW m 4 :: LsF (FW m) 5 0) (ind s) = Bt m 4 s := rfl
  have eN : hg (vW m) (LsF (FW m) 5 0) (ind s) = Bt m 5 s := rfl
  have gk9 : ∀ k : Nat, (gcB (vW m) (FW m 4) (LsF (FW m) 5 0) (ind s) k = true ↔ wF m 4 s k = Bt m 4 s) := fun k => by
    rcases wF_k (m := m) 4 hs (k := k) with ⟨a1, a2, a3⟩ | ⟨a1, a2⟩
    · unfold gcB
      rw [a1, decide_eq_true a2, Bool.true_and, Bool.true_and, decide_eq_true_iff, eB, a3]
    · refine ⟨fun z => absurd ⟨(gcB_t z).1, (gcB_t z).2.1⟩ a1, fun z => ?_⟩
      rw [a2] at z
      omega
  refine f_aln 0 rfl hL rfl ?_
  refine f_iln 1 rfl hL rfl ?_
  refine f_iln 2 rfl hL rfl ?_
  refine m_k1 (t128_4 hn hv hn' h5 hB hF hs) hw hm rfl rfl rfl (m_ar so44 hw rfl) rfl (fun hc1 hw1 hm1 => ?_)
  refine f_istn [(3, fi (Bt m 4 s)), (0, .ref 44), (1, fi (4)), (2, fi (s))] rfl (by decide) hL rfl (fun L1 hL1 => ?_)
  refine f_s [fi (0)] rfl rfl ?_
  refine f_ist [(4, fi (0)), (3, fi (Bt m 4 s)), (0, .ref 44), (1, fi (4)), (2, fi (s))] rfl (by decide) hL1 rfl (fun L2 hL2 => ?_)
  refine f_il 0 rfl hL2 rfl ?_
  refine f_s [fi (4), fi (0)] rfl rfl ?_
  refine f_ic rfl (by decide) (by decide) (fun c_9 => absurd (show (4 : Int) < (0 : Int) from c_9) (by decide)) (fun _ => ?_)
  refine f_aln 2 rfl hL2 rfl ?_
  refine f_iln 3 rfl hL2 rfl ?_
  refine f_iln 4 rfl hL2 rfl ?_
  refine f_il 0 rfl hL2 rfl ?_
  refine m_k1 (t127_40 hn hv hn' h5 hB hF hs) hw1 hm1 rfl rfl rfl (m_ar so44 hw1 rfl) rfl (fun hc2 hw2 hm2 => ?_)
  refine f_iln 1 rfl hL2 rfl ?_
  refine f_ic rfl (by omega) (by omega) (fun d0 => ?_) (fun d0 => ?_)
  · have d0 : ¬ (Bt m 5 s : Int) = (Bt m 4 s : Int) := d0
    refine f_inc 0 [(4, fi (1)), (3, fi (Bt m 4 s)), (0, .ref 44), (1, fi (4)), (2, fi (s))] rfl (by decide) hL2 rfl rfl (fun L3 hL3 => ?_)
    refine f_goto rfl ?_
    refine f_il 0 rfl hL3 rfl ?_
    refine f_s [fi (4), fi (1)] rfl rfl ?_
    refine f_ic rfl (by decide) (by decide) (fun c_9 => absurd (show (4 : Int) < (1 : Int) from c_9) (by decide)) (fun _ => ?_)
    refine f_aln 2 rfl hL3 rfl ?_
    refine f_iln 3 rfl hL3 rfl ?_
    refine f_iln 4 rfl hL3 rfl ?_
    refine f_il 0 rfl hL3 rfl ?_
    refine m_k1 (t127_41 hn hv hn' h5 hB hF hs) hw2 hm2 rfl rfl rfl (m_ar so44 hw2 rfl) rfl (fun hc3 hw3 hm3 => ?_)
    refine f_iln 1 rfl hL3 rfl ?_
    refine f_ic rfl (by omega) (by omega) (fun d1 => ?_) (fun d1 => ?_)
    · have d1 : ¬ (wF m 4 s 0 : Int) = (Bt m 4 s : Int) := d1
      refine f_inc 0 [(4, fi (2)), (3, fi (Bt m 4 s)), (0, .ref 44), (1, fi (4)), (2, fi (s))] rfl (by decide) hL3 rfl rfl (fun L4 hL4 => ?_)
      refine f_goto rfl ?_
      refine f_il 0 rfl hL4 rfl ?_
      refine f_s [fi (4), fi (2)] rfl rfl ?_
      refine f_ic rfl (by decide) (by decide) (fun c_9 => absurd (show (4 : Int) < (2 : Int) from c_9) (by decide)) (fun _ => ?_)
      refine f_aln 2 rfl hL4 rfl ?_
      refine f_iln 3 rfl hL4 rfl ?_
      refine f_iln 4 rfl hL4 rfl ?_
      refine f_il 0 rfl hL4 rfl ?_
      refine m_k1 (t127_42 hn hv hn' h5 hB hF hs) hw3 hm3 rfl rfl rfl (m_ar so44 hw3 rfl) rfl (fun hc4 hw4 hm4 => ?_)
      refine f_iln 1 rfl hL4 rfl ?_
      refine f_ic rfl (by omega) (by omega) (fun d2 => ?_) (fun d2 => ?_)
      · have d2 : ¬ (wF m 4 s 1 : Int) = (Bt m 4 s : Int) := d2
        refine f_inc 0 [(4, fi (3)), (3, fi (Bt m 4 s)), (0, .ref 44), (1, fi (4)), (2, fi (s))] rfl (by decide) hL4 rfl rfl (fun L5 hL5 => ?_)
        refine f_goto rfl ?_
        refine f_il 0 rfl hL5 rfl ?_
        refine f_s [fi (4), fi (3)] rfl rfl ?_
        refine f_ic rfl (by decide) (by decide) (fun c_9 => absurd (show (4 : Int) < (3 : Int) from c_9) (by decide)) (fun _ => ?_)
        refine f_aln 2 rfl hL5 rfl ?_
        refine f_iln 3 rfl hL5 rfl ?_
        refine f_iln 4 rfl hL5 rfl ?_
        refine f_il 0 rfl hL5 rfl ?_
        refine m_k1 (t127_43 hn hv hn' h5 hB hF hs) hw4 hm4 rfl rfl rfl (m_ar so44 hw4 rfl) rfl (fun hc5 hw5 hm5 => ?_)
        refine f_iln 1 rfl hL5 rfl ?_
        refine f_ic rfl (by omega) (by omega) (fun d3 => ?_) (fun d3 => ?_)
        · have d3 : ¬ (wF m 4 s 2 : Int) = (Bt m 4 s : Int) := d3
          refine f_inc 0 [(4, fi (4)), (3, fi (Bt m 4 s)), (0, .ref 44), (1, fi (4)), (2, fi (s))] rfl (by decide) hL5 rfl rfl (fun L6 hL6 => ?_)
          refine f_goto rfl ?_
          refine f_il 0 rfl hL6 rfl ?_
          refine f_s [fi (4), fi (4)] rfl rfl ?_
          refine f_ic rfl (by decide) (by decide) (fun c_9 => absurd (show (4 : Int) < (4 : Int) from c_9) (by decide)) (fun _ => ?_)
          refine f_aln 2 rfl hL6 rfl ?_
          refine f_iln 3 rfl hL6 rfl ?_
          refine f_iln 4 rfl hL6 rfl ?_
          refine f_il 0 rfl hL6 rfl ?_
          refine m_k1 (t127_44 hn hv hn' h5 hB hF hs) hw5 hm5 rfl rfl rfl (m_ar so44 hw5 rfl) rfl (fun hc6 hw6 hm6 => ?_)
          refine f_iln 1 rfl hL6 rfl ?_
          refine f_ic rfl (by omega) (by omega) (fun d4 => ?_) (fun d4 => ?_)
          · have d4 : ¬ (wF m 4 s 3 : Int) = (Bt m 4 s : Int) := d4
            refine f_inc 0 [(4, fi (5)), (3, fi (Bt m 4 s)), (0, .ref 44), (1, fi (4)), (2, fi (s))] rfl (by decide) hL6 rfl rfl (fun L7 hL7 => ?_)
            refine f_goto rfl ?_
            refine f_il 0 rfl hL7 rfl ?_
            refine f_s [fi (4), fi (5)] rfl rfl ?_
            refine f_ic rfl (by decide) (by decide) (fun _ => ?_) (fun c_9 => absurd (show (4 : Int) < (5 : Int) from (by decide)) c_9)
            refine f_s [fi (0)] rfl rfl ?_
            have e9 : gd (vW m) (FW m 4) (LsF (FW m) 5 0) (ind s) = 0 := by
              unfold gd
              rw [eB, eN, if_neg d0, if_neg (fun z => d1 ((gk9 0).mp z)), if_neg (fun z => d2 ((gk9 1).mp z)), if_neg (fun z => d3 ((gk9 2).mp z)), if_neg (fun z => d4 ((gk9 3).mp z))]
            exact f_ret1 rfl ⟨by rw [e9]; rfl, hw6, hm6⟩
          · have d4 : ¬ (¬ (wF m 4 s 3 : Int) = (Bt m 4 s : Int)) := d4
            have d4 : wF m 4 s 3 = Bt m 4 s := Classical.byContradiction d4
            refine f_il 0 rfl hL6 rfl ?_
            have e9 : gd (vW m) (FW m 4) (LsF (FW m) 5 0) (ind s) = 4 := by
              unfold gd
              rw [eB, eN, if_neg d0, if_neg (fun z => d1 ((gk9 0).mp z)), if_neg (fun z => d2 ((gk9 1).mp z)), if_neg (fun z => d3 ((gk9 2).mp z)), if_pos ((gk9 3).mpr d4)]
            exact f_ret1 rfl ⟨by rw [e9]; rfl, hw6, hm6⟩
        · have d3 : ¬ (¬ (wF m 4 s 2 : Int) = (Bt m 4 s : Int)) := d3
          have d3 : wF m 4 s 2 = Bt m 4 s := Classical.byContradiction d3
          refine f_il 0 rfl hL5 rfl ?_
          have e9 : gd (vW m) (FW m 4) (LsF (FW m) 5 0) (ind s) = 3 := by
            unfold gd
            rw [eB, eN, if_neg d0, if_neg (fun z => d1 ((gk9 0).mp z)), if_neg (fun z => d2 ((gk9 1).mp z)), if_pos ((gk9 2).mpr d3)]
          exact f_ret1 rfl ⟨by rw [e9]; rfl, hw5, hm5⟩
      · have d2 : ¬ (¬ (wF m 4 s 1 : Int) = (Bt m 4 s : Int)) := d2
        have d2 : wF m 4 s 1 = Bt m 4 s := Classical.byContradiction d2
        refine f_il 0 rfl hL4 rfl ?_
        have e9 : gd (vW m) (FW m 4) (LsF (FW m) 5 0) (ind s) = 2 := by
          unfold gd
          rw [eB, eN, if_neg d0, if_neg (fun z => d1 ((gk9 0).mp z)), if_pos ((gk9 1).mpr d2)]
        exact f_ret1 rfl ⟨by rw [e9]; rfl, hw4, hm4⟩
    · have d1 : ¬ (¬ (wF m 4 s 0 : Int) = (Bt m 4 s : Int)) := d1
      have d1 : wF m 4 s 0 = Bt m 4 s := Classical.byContradiction d1
      refine f_il 0 rfl hL3 rfl ?_
      have e9 : gd (vW m) (FW m 4) (LsF (FW m) 5 0) (ind s) = 1 := by
        unfold gd
        rw [eB, eN, if_neg d0, if_pos ((gk9 0).mpr d1)]
      exact f_ret1 rfl ⟨by rw [e9]; rfl, hw3, hm3⟩
  · have d0 : ¬ (¬ (Bt m 5 s : Int) = (Bt m 4 s : Int)) := d0
    have d0 : Bt m 5 s = Bt m 4 s := Classical.byContradiction d0
    refine f_il 0 rfl hL2 rfl ?_
    have e9 : gd (vW m) (FW m 4) (LsF (FW m) 5 0) (ind s) = 0 := by
      unfold gd
      rw [eB, eN, if_pos d0]
    exact f_ret1 rfl ⟨by rw [e9]; rfl, hw2, hm2⟩)
