/-! ways of the reference -/
theorem pw_r {c e : Nat} (hc : 0 < c) (hc5 : c ≤ 5) (he : e ≤ 5) : 1 ≤ c ^ e ∧ c ^ e ≤ 3125 := by
  refine ⟨Nat.pow_pos hc, Nat.le_trans (Nat.pow_le_pow_left hc5 e) (Nat.le_trans (Nat.pow_le_pow_right (by decide) he) (by decide))⟩
def up1 (g : Nat → Int) (k : Nat) (v : Int) : Nat → Int := fun i => if i = k then v else g i
def wyM (m : Nat → Nat → Int) (b : Int) (g : Nat → Int) : Nat → Nat → Int := fun q i => if q = 66 then g i else if q = 55 ∧ i = 20 then b else m q i
theorem wy_66 {m : Nat → Nat → Int} {b : Int} {g : Nat → Int} {i : Nat} : wyM m b g 66 i = g i := if_pos rfl
theorem wy_b {m : Nat → Nat → Int} {b : Int} {g : Nat → Int} : wyM m b g 55 20 = b := (if_neg (by decide)).trans (if_pos ⟨rfl, rfl⟩)
theorem wy_ne {m : Nat → Nat → Int} {b : Int} {g : Nat → Int} {q i : Nat} (h1 : q ≠ 66) (h2 : q ≠ 55) : wyM m b g q i = m q i := (if_neg h1).trans (if_neg (fun z => h2 z.1))
theorem wy_55 {m : Nat → Nat → Int} {b : Int} {g : Nat → Int} {i : Nat} (h2 : i ≠ 20) : wyM m b g 55 i = m 55 i := (if_neg (by decide)).trans (if_neg (fun z => h2 z.2))
theorem wy_0 (m : Nat → Nat → Int) : wyM m (m 55 20) (m 66) = m := by
  funext q i
  unfold wyM
  split
  · rename_i h; subst h; rfl
  · split
    · rename_i h; obtain ⟨rfl, rfl⟩ := h; rfl
    · rfl
theorem wy_u {m : Nat → Nat → Int} {b : Int} {g : Nat → Int} {k : Nat} {v : Int} : up (wyM m b g) 66 k v = wyM m b (up1 g k v) := by
  funext q i
  unfold up wyM up1
  by_cases h : q = 66
  · subst h
    rw [if_pos rfl, if_pos rfl]
    by_cases h2 : i = k
    · rw [if_pos ⟨rfl, h2⟩, if_pos h2]
    · rw [if_neg (fun z => h2 z.2), if_neg h2]
  · rw [if_neg (fun z => h z.1), if_neg h, if_neg h]
theorem wy_v {m : Nat → Nat → Int} {b : Int} {g : Nat → Int} {v : Int} : up (wyM m b g) 55 20 v = wyM m v g := by
  funext q i
  unfold up wyM
  by_cases h : q = 66
  · subst h
    rw [if_neg (fun z => by cases z.1), if_pos rfl, if_pos rfl]
  · rw [if_neg h, if_neg h]
    by_cases h2 : q = 55 ∧ i = 20
    · rw [if_pos h2, if_pos h2]
    · rw [if_neg h2, if_neg h2, if_neg h2]
def z4 (g : Nat → Int) : Nat → Int := up1 (up1 (up1 (up1 g 0 0) 1 0) 2 0) 3 0
theorem z4_0 (g : Nat → Int) {k : Nat} (hk : k < 4) : z4 g k = 0 := by
  have : k = 0 ∨ k = 1 ∨ k = 2 ∨ k = 3 := by omega
  rcases this with rfl | rfl | rfl | rfl <;> rfl
def thM (m : Nat → Nat → Int) (N : Nat) : Int := iA ((iS (1) ((N : Int))) - 1) (iX (m 61 15) (-1))
theorem t114 {m : Nat → Nat → Int} {N : Nat} (hN : m 55 0 = (N : Int)) : h_M 114 [.ref 55] m (some (fi (thM m N))) m := h_M_of (R := ev_r114) rfl (fun hc hw hm => by
  have hL : f_L (lv_args 0 [.ref 55]) [(0, .ref 55)] := f_L_of rfl
  generalize lv_args 0 [.ref 55] = L at hL
  show x_W none (1, 0, 1, 0, 11, 0, 0, 0, 0, ev_t114) 0 L [] hc 0 0 _
  have hR := gi_R hm
  refine f_s [fi (1)] rfl rfl ?_
  refine f_aln 0 rfl hL rfl ?_
  refine m_gfi so55 ((N : Int)) rfl hw hm rfl hN ?_
  refine b_ishl rfl ?_
  refine f_s [fi (1), fi (iS (1) ((N : Int)))] rfl rfl ?_
  refine f_isub rfl ?_
  refine f_aln 0 rfl hL rfl ?_
  refine m_gfr so55 rfl hw rfl (by decide) ?_
  refine f_bipush (n := 15) rfl (by decide) ?_
  refine m_ia sa61 (m 61 15) rfl hw hm (by omega) (by omega) (by decide) rfl ?_
  refine f_s [fi (-1), fi (m 61 15), fi ((iS (1) ((N : Int))) - 1)] rfl rfl ?_
  refine b_ixor rfl ?_
  refine b_iand rfl ?_
  exact f_ret1 rfl ⟨rfl, hw, hm⟩)
theorem t115 {m : Nat → Nat → Int} {v n : Int} {c e : Nat} (hv : v = (c : Int)) (hn : n = (e : Int)) (he : e ≤ 10) : h_M 115 [fi (v), fi (n)] m (some (fi (((c ^ e : Nat) : Int)))) m := h_M_of (R := ev_r115) rfl (fun hc hw hm => by
  have hL : f_L (lv_args 0 [fi (v), fi (n)]) [(0, fi (v)), (1, fi (n))] := f_L_of rfl
  generalize lv_args 0 [fi (v), fi (n)] = L at hL
  show x_W none (1, 0, 4, 2, 0, 0, 0, 0, 0, ev_t115) 0 L [] hc 0 0 _
  have hR := gi_R hm
  have hK : ∀ (j : Nat) (hc : ev_H) (x y : Int) (L : ev_L), y_in yGw hc → gi hc = m → (0 ≤ x ∧ x + j = e) → f_L L [(3, fi (x)), (2, fi (y)), (0, fi (v)), (1, fi (n))] → x_W none (1, 0, 4, 2, 0, 0, 0, 0, 0, ev_t115) 4 L [] hc 0 0 (fun r' h' => r' = some (fi (y * ((c ^ j : Nat) : Int))) ∧ y_in yGw h' ∧ gi h' = m) := by
    intro j
    induction j with
    | zero =>
      intro hc x y L hw hm hx hL
      refine f_iln 0 rfl hL rfl ?_
      refine f_iln 3 rfl hL rfl ?_
      refine f_ic rfl (by omega) (by omega) (fun _ => ?_) (fun c_9 => absurd (show (n : Int) ≤ (x : Int) from (by omega)) c_9)
      refine f_iln 1 rfl hL rfl ?_
      exact f_ret1 rfl ⟨by rw [Nat.pow_zero]; show _ = some (fi (y * 1)); rw [Int.mul_one], hw, hm⟩
    | succ j ih =>
      intro hc x y L hw hm hx hL
      refine f_iln 0 rfl hL rfl ?_
      refine f_iln 3 rfl hL rfl ?_
      refine f_ic rfl (by omega) (by omega) (fun c_9 => absurd (show (n : Int) ≤ (x : Int) from c_9) (by omega)) (fun _ => ?_)
      refine f_iln 1 rfl hL rfl ?_
      refine f_iln 2 rfl hL rfl ?_
      refine f_imul rfl ?_
      refine f_istn [(2, fi (y * v)), (3, fi (x)), (0, fi (v)), (1, fi (n))] rfl (by decide) hL rfl (fun L1 hL1 => ?_)
      refine f_inc 1 [(3, fi (x + 1)), (2, fi (y * v)), (0, fi (v)), (1, fi (n))] rfl (by decide) hL1 rfl rfl (fun L2 hL2 => ?_)
      refine f_goto rfl ?_
      rw [show y * ((c ^ (j + 1) : Nat) : Int) = (y * v) * ((c ^ j : Nat) : Int) by rw [Nat.pow_succ, Int.natCast_mul, hv, Int.mul_assoc, Int.mul_comm ((c : Nat) : Int)]]
      exact ih hc _ _ _ hw hm (by omega) (hL2.sel [0, 1, 2, 3] rfl)
  refine f_s [fi (1)] rfl rfl ?_
  refine f_istn [(2, fi (1)), (0, fi (v)), (1, fi (n))] rfl (by decide) hL rfl (fun L3 hL3 => ?_)
  refine f_s [fi (0)] rfl rfl ?_
  refine f_istn [(3, fi (0)), (2, fi (1)), (0, fi (v)), (1, fi (n))] rfl (by decide) hL3 rfl (fun L4 hL4 => ?_)
  rw [show ((c ^ e : Nat) : Int) = 1 * ((c ^ e : Nat) : Int) by rw [Int.one_mul]]
  exact hK e hc 0 1 _ hw hm (by omega) (hL4.sel [0, 1, 2, 3] rfl))
theorem t116 {m : Nat → Nat → Int} {N P : Nat} (hN : m 55 0 = (N : Int)) (hP : m 55 1 = (P : Int)) (hN4 : N ≤ 4) (hP5 : P ≤ 5) {y p K : Int} {Y j : Nat} (hy : y = (Y : Int)) (hY : Y ≤ 4000) (hj : 0 ≤ p ∧ p + (j + 1) = (P : Int)) (hK : K = ((Y / (N + 1) ^ j % (N + 1) : Nat) : Int) - 1) : h_M 116 [.ref 55, fi (y), fi (p)] m (some (fi (K))) m := h_M_of (R := ev_r116) rfl (fun hc hw hm => by
  have hL : f_L (lv_args 0 [.ref 55, fi (y), fi (p)]) [(0, .ref 55), (1, fi (y)), (2, fi (p))] := f_L_of rfl
  generalize lv_args 0 [.ref 55, fi (y), fi (p)] = L at hL
  show x_W none (1, 0, 3, 2, 11, 1, 23, 0, 0, ev_t116) 0 L [] hc 0 0 _
  have hR := gi_R hm
  refine f_iln 1 rfl hL rfl ?_
  refine f_aln 0 rfl hL rfl ?_
  refine m_gfi so55 ((N : Int)) rfl hw hm rfl hN ?_
  refine f_s [fi (1), fi ((N : Int)), fi (y)] rfl rfl ?_
  refine f_iadd rfl ?_
  refine f_aln 0 rfl hL rfl ?_
  refine m_gfi so55 ((P : Int)) rfl hw hm rfl hP ?_
  refine f_s [fi (1), fi ((P : Int)), fi (((N : Int)) + 1), fi (y)] rfl rfl ?_
  refine f_isub rfl ?_
  refine f_iln 2 rfl hL rfl ?_
  refine f_isub rfl ?_
  refine m_k1 (t115 (c := N + 1) (e := j) (by omega) (by omega) (by omega)) hw hm rfl rfl rfl rfl rfl (fun hc1 hw1 hm1 => ?_)
  have r1 := pw_r (c := N + 1) (e := j) (by omega) (by omega) (by omega)
  refine f_idiv rfl (by omega) (by omega) (by omega) (by omega) ?_
  refine b_eq (x := ((Y / (N + 1) ^ j : Nat) : Int)) (by rw [hy]; rfl) ?_
  have r2 : Y / (N + 1) ^ j ≤ Y := Nat.div_le_self _ _
  refine f_aln 0 rfl hL rfl ?_
  refine m_gfi so55 ((N : Int)) rfl hw1 hm1 rfl hN ?_
  refine f_s [fi (1), fi ((N : Int)), fi (((Y / (N + 1) ^ j : Nat) : Int))] rfl rfl ?_
  refine f_iadd rfl ?_
  refine f_irem rfl (Int.natCast_nonneg _) (by omega) (by omega) (by omega) ?_
  refine b_eq (x := ((Y / (N + 1) ^ j % (N + 1) : Nat) : Int)) rfl ?_
  refine f_s [fi (1), fi (((Y / (N + 1) ^ j % (N + 1) : Nat) : Int))] rfl rfl ?_
  refine f_isub rfl ?_
  exact f_ret1 rfl ⟨by rw [hK], hw1, hm1⟩)
def iwS (wb : Nat → Nat → Bool) (Rf : Nat → Int) (nx : (Nat → Int) → Bool × (Nat → Int)) (p : Nat) (g : Nat → Int) (d : Nat) : Bool × (Nat → Int) := match d with
  | 0 => nx g
  | k + 1 => if wb p k = true ∧ g k + 1 ≤ Rf k then nx (up1 g k (g k + 1)) else (false, up1 g k (g k + 1))
def iw (N Y : Nat) (wb : Nat → Nat → Bool) (Rf : Nat → Int) : Nat → Nat → (Nat → Int) → Bool × (Nat → Int)
  | 0, _, g => (true, g)
  | j + 1, p, g => iwS wb Rf (fun g => iw N Y wb Rf j (p + 1) g) p g (Y / (N + 1) ^ j % (N + 1))
def wb0 (m : Nat → Nat → Int) (h s : Int) (p k : Nat) : Bool := decide ((¬ iA (iR (m 61 16) (p : Int)) (1) = 1 ∧ m 58 p ≤ h ∧ h ≤ m 59 p) ∧ iA (iR (s) (k : Int)) (1) = 1 ∧ iA (iR (m 60 p) (k : Int)) (1) = 1)
def wb1 (m : Nat → Nat → Int) (s : Int) (p k : Nat) : Bool := decide (¬ iA (iR (m 61 16) (p : Int)) (1) = 1 ∧ iA (iR (s) (k : Int)) (1) = 1 ∧ iA (iR (m 60 p) (k : Int)) (1) = 1)
def rf0 (m : Nat → Nat → Int) (k : Nat) : Int := rmM m (k : Int)
def rf1 (_ : Nat) : Int := 1
theorem rmM_wy {m : Nat → Nat → Int} {b : Int} {g : Nat → Int} (k : Int) : rmM (wyM m b g) k = rmM m k := by
  unfold rmM
  rw [wy_ne (by decide) (by decide)]
theorem rmM_12 (m : Nat → Nat → Int) (k : Int) : 1 ≤ rmM m k ∧ rmM m k ≤ 2 := by
  unfold rmM
  split <;> decide
set_option maxHeartbeats 1000000 in
theorem t117_0 {m : Nat → Nat → Int} {N P : Nat} (hN : m 55 0 = (N : Int)) (hP : m 55 1 = (P : Int)) (hN4 : N ≤ 4) (hP5 : P ≤ 5) {b : Int} {g : Nat → Int} {y s h : Int} {Y : Nat} (hy : y = (Y : Int)) (hY : Y ≤ 4000) (rs : -2147483648 ≤ s ∧ s ≤ 2147483647) (hh : 0 ≤ h ∧ h ≤ 9) (hR0 : ∀ q i, -2147483648 ≤ m q i ∧ m q i ≤ 2147483647) : h_M 117 [.ref 55, fi (y), fi (s), fi (h)] (wyM m b g) (some (fi (bI (iw N Y (wb0 m h s) (rf0 m) P 0 (z4 g)).1))) (wyM m b (iw N Y (wb0 m h s) (rf0 m) P 0 (z4 g)).2) := h_M_of (R := ev_r117) rfl (fun hc hw hm => by
  have hL : f_L (lv_args 0 [.ref 55, fi (y), fi (s), fi (h)]) [(0, .ref 55), (1, fi (y)), (2, fi (s)), (3, fi (h))] := f_L_of rfl
  generalize lv_args 0 [.ref 55, fi (y), fi (s), fi (h)] = L at hL
  show x_W none (2, 0, 7, 3, 11, 3, 66, 0, 0, ev_t117) 0 L [] hc 0 0 _
  have hR := gi_R hm
  have hK : ∀ (j : Nat) (hc : ev_H) (p : Int) (g : Nat → Int) (L : ev_L), y_in yGw hc → gi hc = wyM m b g → (0 ≤ p ∧ p + j = (P : Int)) → (∀ k, k < 4 → 0 ≤ g k ∧ g k + j ≤ 10) → f_L L [(4, fi (p)), (0, .ref 55), (1, fi (y)), (2, fi (s)), (3, fi (h))] → x_W none (2, 0, 7, 3, 11, 3, 66, 0, 0, ev_t117) 26 L [] hc 0 0 (fun r' h' => r' = some (fi (bI (iw N Y (wb0 m h s) (rf0 m) j (p).toNat g).1)) ∧ y_in yGw h' ∧ gi h' = wyM m b (iw N Y (wb0 m h s) (rf0 m) j (p).toNat g).2) := by
    intro j
    induction j with
    | zero =>
      intro hc p g L hw hm hp9 hg hL
      refine f_il 0 rfl hL rfl ?_
      refine f_aln 1 rfl hL rfl ?_
      refine m_gfi so55 ((P : Int)) rfl hw hm rfl ((wy_55 (by decide)).trans hP) ?_
      refine f_ic rfl (by omega) (by omega) (fun _ => ?_) (fun c_9 => absurd (show ((P : Int) : Int) ≤ (p : Int) from (by omega)) c_9)
      refine f_s [fi (1)] rfl rfl ?_
      exact f_ret2 rfl (Or.inr rfl) ⟨rfl, hw, hm⟩
    | succ j ih =>
      intro hc p g L hw hm hp9 hg hL
      refine f_il 0 rfl hL rfl ?_
      refine f_aln 1 rfl hL rfl ?_
      refine m_gfi so55 ((P : Int)) rfl hw hm rfl ((wy_55 (by decide)).trans hP) ?_
      refine f_ic rfl (by omega) (by omega) (fun c_9 => absurd (show ((P : Int) : Int) ≤ (p : Int) from c_9) (by omega)) (fun _ => ?_)
      refine f_aln 1 rfl hL rfl ?_
      refine f_iln 2 rfl hL rfl ?_
      refine f_il 0 rfl hL rfl ?_
      obtain ⟨K, eK⟩ : ∃ K : Int, K = ((Y / (N + 1) ^ j % (N + 1) : Nat) : Int) - 1 := ⟨_, rfl⟩
      have d1 : Y / (N + 1) ^ j % (N + 1) < N + 1 := Nat.mod_lt _ (by omega)
      refine m_k1 (t116 (m := wyM m b g) (j := j) ((wy_55 (by decide)).trans hN) ((wy_55 (by decide)).trans hP) hN4 hP5 hy hY (by omega) eK) hw hm rfl rfl rfl (m_ar so55 hw rfl) rfl (fun hc1 hw1 hm1 => ?_)
      refine f_ist [(5, fi (K)), (4, fi (p)), (0, .ref 55), (1, fi (y)), (2, fi (s)), (3, fi (h))] rfl (by decide) hL rfl (fun L1 hL1 => ?_)
      refine f_il 0 rfl hL1 rfl ?_
      refine f_if rfl (by omega) (fun c0 => ?_) (fun c0 => ?_)
      · have c0 : (K : Int) < (0 : Int) := c0
        refine f_inc 1 [(4, fi (p + 1)), (5, fi (K)), (0, .ref 55), (1, fi (y)), (2, fi (s)), (3, fi (h))] rfl (by decide) hL1 rfl rfl (fun L2 hL2 => ?_)
        refine f_goto rfl ?_
        have e7 : Y / (N + 1) ^ j % (N + 1) = 0 := by omega
        have e9 : iw N Y (wb0 m h s) (rf0 m) (j + 1) (p).toNat g = iw N Y (wb0 m h s) (rf0 m) j (p + 1).toNat g := by
          rw [show (p + 1).toNat = (p).toNat + 1 by omega]
          show iwS (wb0 m h s) (rf0 m) (fun g => iw N Y (wb0 m h s) (rf0 m) j ((p).toNat + 1) g) (p).toNat g (Y / (N + 1) ^ j % (N + 1)) = _
          rw [e7]
          rfl
        rw [e9]
        exact ih hc1 _ _ _ hw1 hm1 (by omega) (fun k hk => by have := hg k hk; omega) (hL2.sel [0, 2, 3, 4, 5] rfl)
      · have c0 : ¬ ((K : Int) < (0 : Int)) := c0
        have e7 : Y / (N + 1) ^ j % (N + 1) = (K).toNat + 1 := by omega
        have r8 := hg (K).toNat (by omega)
        refine f_aln 2 rfl hL1 rfl ?_
        refine m_gfr so55 rfl hw1 rfl (by decide) ?_
        refine f_il 0 rfl hL1 rfl ?_
        refine f_s [fi (K), .ref 66, fi (K), .ref 66] rfl rfl ?_
        refine m_ia sa66 (g (K).toNat) rfl hw1 hm1 (by omega) (by omega) (by decide) wy_66 ?_
        refine f_s [fi (1), fi (g (K).toNat), fi (K), .ref 66] rfl rfl ?_
        refine f_iadd rfl ?_
        refine m_ias sa66 rfl hw1 hm1 (by omega) (by omega) (by decide) (by omega) (fun hc2 hw2 hm2 => ?_)
        have hm9 : gi hc2 = wyM m b (up1 g (K).toNat (g (K).toNat + 1)) := hm2.trans wy_u
        have ep : (((p).toNat : Nat) : Int) = p := by omega
        have ek : (((K).toNat : Nat) : Int) = K := by omega
        have es : iw N Y (wb0 m h s) (rf0 m) (j + 1) (p).toNat g = (if (wb0 m h s) (p).toNat (K).toNat = true ∧ g (K).toNat + 1 ≤ (rf0 m) (K).toNat then iw N Y (wb0 m h s) (rf0 m) j ((p).toNat + 1) (up1 g (K).toNat (g (K).toNat + 1)) else (false, (up1 g (K).toNat (g (K).toNat + 1)))) := by
          show iwS (wb0 m h s) (rf0 m) (fun g => iw N Y (wb0 m h s) (rf0 m) j ((p).toNat + 1) g) (p).toNat g (Y / (N + 1) ^ j % (N + 1)) = _
          rw [e7]
          rfl
        refine f_iln 5 rfl hL1 rfl ?_
        refine f_if rfl (by omega) (fun _ => ?_) (fun c_9 => absurd (show (0 : Int) ≤ (h : Int) from (by omega)) c_9)
        refine f_aln 2 rfl hL1 rfl ?_
        refine f_s [fi (0), .ref 55] rfl rfl ?_
        refine f_il 1 rfl hL1 rfl ?_
        refine f_iln 5 rfl hL1 rfl ?_
        refine m_k1 (show h_M 90 [.ref 55, fi (0), fi (p), fi (h)] (wyM m b (up1 g (K).toNat (g (K).toNat + 1))) (some (fi (bI (decide (¬ iA (iR (m 61 16) (p)) (1) = 1 ∧ m 58 (p).toNat ≤ h ∧ h ≤ m 59 (p).toNat))))) (wyM m b (up1 g (K).toNat (g (K).toNat + 1))) from t90_0 (m := wyM m b (up1 g (K).toNat (g (K).toNat + 1))) (by omega) (by omega) (by omega) (wy_ne (by decide) (by decide)) (hR0 58 _) (wy_ne (by decide) (by decide)) (hR0 59 _)) hw2 hm9 rfl rfl rfl (m_ar so55 hw2 rfl) rfl (fun hc3 hw3 hm3 => ?_)
        refine f_ist [(6, fi (bI (decide (¬ iA (iR (m 61 16) (p)) (1) = 1 ∧ m 58 (p).toNat ≤ h ∧ h ≤ m 59 (p).toNat)))), (5, fi (K)), (4, fi (p)), (0, .ref 55), (1, fi (y)), (2, fi (s)), (3, fi (h))] rfl (by decide) hL1 rfl (fun L3 hL3 => ?_)
        refine f_il 0 rfl hL3 rfl ?_
        refine f_if rfl (bI_r _) (fun c1 => ?_) (fun c1 => ?_)
        · have c1 : (bI (decide (¬ iA (iR (m 61 16) (p)) (1) = 1 ∧ m 58 (p).toNat ≤ h ∧ h ≤ m 59 (p).toNat)) : Int) = (0 : Int) := c1
          have c1 : ¬ (¬ iA (iR (m 61 16) (p)) (1) = 1 ∧ m 58 (p).toNat ≤ h ∧ h ≤ m 59 (p).toNat) := bI_f c1
          refine f_s [fi (0)] rfl rfl ?_
          have e9 : iw N Y (wb0 m h s) (rf0 m) (j + 1) (p).toNat g = (false, (up1 g (K).toNat (g (K).toNat + 1))) := es.trans (if_neg (fun z => by
            have y := z.1; unfold wb0 at y; rw [ep, ek] at y; have y := of_decide_eq_true y; exact c1 y.1))
          exact f_ret2 rfl (Or.inl rfl) ⟨by rw [e9]; rfl, hw3, by rw [e9]; exact hm3⟩
        · have c1 : ¬ ((bI (decide (¬ iA (iR (m 61 16) (p)) (1) = 1 ∧ m 58 (p).toNat ≤ h ∧ h ≤ m 59 (p).toNat)) : Int) = (0 : Int)) := c1
          have c1 : ¬ iA (iR (m 61 16) (p)) (1) = 1 ∧ m 58 (p).toNat ≤ h ∧ h ≤ m 59 (p).toNat := bI_t c1
          refine f_iln 5 rfl hL3 rfl ?_
          refine f_il 1 rfl hL3 rfl ?_
          refine m_k1 (t73 rs (by omega)) hw3 hm3 rfl rfl rfl rfl rfl (fun hc4 hw4 hm4 => ?_)
          refine f_if rfl (bI_r _) (fun c2 => ?_) (fun c2 => ?_)
          · have c2 : (bI (decide (iA (iR (s) (K)) (1) = 1)) : Int) = (0 : Int) := c2
            have c2 : ¬ (iA (iR (s) (K)) (1) = 1) := bI_f c2
            refine f_s [fi (0)] rfl rfl ?_
            have e9 : iw N Y (wb0 m h s) (rf0 m) (j + 1) (p).toNat g = (false, (up1 g (K).toNat (g (K).toNat + 1))) := es.trans (if_neg (fun z => by
              have y := z.1; unfold wb0 at y; rw [ep, ek] at y; have y := of_decide_eq_true y; exact c2 y.2.1))
            exact f_ret2 rfl (Or.inl rfl) ⟨by rw [e9]; rfl, hw4, by rw [e9]; exact hm4⟩
          · have c2 : ¬ ((bI (decide (iA (iR (s) (K)) (1) = 1)) : Int) = (0 : Int)) := c2
            have c2 : iA (iR (s) (K)) (1) = 1 := bI_t c2
            refine f_aln 3 rfl hL3 rfl ?_
            refine m_gfr so55 rfl hw4 rfl (by decide) ?_
            refine f_il 2 rfl hL3 rfl ?_
            refine m_ia sa60 (m 60 (p).toNat) rfl hw4 hm4 (by omega) (by omega) (by decide) (wy_ne (by decide) (by decide)) ?_
            refine f_il 1 rfl hL3 rfl ?_
            refine m_k1 (t73 (hR0 60 _) (by omega)) hw4 hm4 rfl rfl rfl rfl rfl (fun hc5 hw5 hm5 => ?_)
            refine f_if rfl (bI_r _) (fun c3 => ?_) (fun c3 => ?_)
            · have c3 : (bI (decide (iA (iR (m 60 (p).toNat) (K)) (1) = 1)) : Int) = (0 : Int) := c3
              have c3 : ¬ (iA (iR (m 60 (p).toNat) (K)) (1) = 1) := bI_f c3
              refine f_s [fi (0)] rfl rfl ?_
              have e9 : iw N Y (wb0 m h s) (rf0 m) (j + 1) (p).toNat g = (false, (up1 g (K).toNat (g (K).toNat + 1))) := es.trans (if_neg (fun z => by
                have y := z.1; unfold wb0 at y; rw [ep, ek] at y; have y := of_decide_eq_true y; exact c3 y.2.2))
              exact f_ret2 rfl (Or.inl rfl) ⟨by rw [e9]; rfl, hw5, by rw [e9]; exact hm5⟩
            · have c3 : ¬ ((bI (decide (iA (iR (m 60 (p).toNat) (K)) (1) = 1)) : Int) = (0 : Int)) := c3
              have c3 : iA (iR (m 60 (p).toNat) (K)) (1) = 1 := bI_t c3
              refine f_aln 3 rfl hL3 rfl ?_
              refine m_gfr so55 rfl hw5 rfl (by decide) ?_
              refine f_il 1 rfl hL3 rfl ?_
              refine m_ia sa66 (g (K).toNat + 1) rfl hw5 hm5 (by omega) (by omega) (by decide) (wy_66.trans (if_pos rfl)) ?_
              refine f_iln 6 rfl hL3 rfl ?_
              refine f_if rfl (by omega) (fun _ => ?_) (fun c_9 => absurd (show (0 : Int) ≤ (h : Int) from (by omega)) c_9)
              refine f_aln 3 rfl hL3 rfl ?_
              refine f_il 1 rfl hL3 rfl ?_
              refine m_k1 (show h_M 76 [.ref 55, fi (K)] (wyM m b (up1 g (K).toNat (g (K).toNat + 1))) (some (fi (rmM m K))) (wyM m b (up1 g (K).toNat (g (K).toNat + 1))) from rmM_wy (m := m) (b := b) (g := (up1 g (K).toNat (g (K).toNat + 1))) K ▸ t76 (by omega) (by omega)) hw5 hm5 rfl rfl rfl (m_ar so55 hw5 rfl) rfl (fun hc6 hw6 hm6 => ?_)
              have r7 := rmM_12 m K
              have e6 : (rf0 m) (K).toNat = rmM m K := by show rmM m _ = _; rw [ek]
              refine f_ic rfl (by omega) (by omega) (fun c4 => ?_) (fun c4 => ?_)
              · have c4 : (g (K).toNat + 1 : Int) ≤ (rmM m K : Int) := c4
                refine f_inc 2 [(4, fi (p + 1)), (6, fi (bI (decide (¬ iA (iR (m 61 16) (p)) (1) = 1 ∧ m 58 (p).toNat ≤ h ∧ h ≤ m 59 (p).toNat)))), (5, fi (K)), (0, .ref 55), (1, fi (y)), (2, fi (s)), (3, fi (h))] rfl (by decide) hL3 rfl rfl (fun L4 hL4 => ?_)
                refine f_goto rfl ?_
                have wt : (wb0 m h s) (p).toNat (K).toNat = true := by unfold wb0; rw [ep, ek]; exact decide_eq_true ⟨c1, c2, c3⟩
                have e9 : iw N Y (wb0 m h s) (rf0 m) (j + 1) (p).toNat g = iw N Y (wb0 m h s) (rf0 m) j (p + 1).toNat (up1 g (K).toNat (g (K).toNat + 1)) := by
                  rw [es, if_pos ⟨wt, by rw [e6]; omega⟩, show (p + 1).toNat = (p).toNat + 1 by omega]
                rw [e9]
                exact ih hc6 _ _ _ hw6 hm6 (by omega) (fun k hk => by have := hg k hk; unfold up1; split <;> rename_i q <;> (try subst q) <;> omega) (hL4.sel [0, 3, 4, 5, 6] rfl)
              · have c4 : ¬ ((g (K).toNat + 1 : Int) ≤ (rmM m K : Int)) := c4
                refine f_s [fi (0)] rfl rfl ?_
                have e9 : iw N Y (wb0 m h s) (rf0 m) (j + 1) (p).toNat g = (false, (up1 g (K).toNat (g (K).toNat + 1))) := es.trans (if_neg (fun z => by
                  have y := z.2; rw [e6] at y; omega))
                exact f_ret2 rfl (Or.inl rfl) ⟨by rw [e9]; rfl, hw6, by rw [e9]; exact hm6⟩
  refine f_s [fi (0)] rfl rfl ?_
  refine f_ist [(4, fi (0)), (0, .ref 55), (1, fi (y)), (2, fi (s)), (3, fi (h))] rfl (by decide) hL rfl (fun L5 hL5 => ?_)
  refine f_il 0 rfl hL5 rfl ?_
  refine f_s [fi (4), fi (0)] rfl rfl ?_
  refine f_ic rfl (by decide) (by decide) (fun c_9 => absurd (show (4 : Int) ≤ (0 : Int) from c_9) (by decide)) (fun _ => ?_)
  refine f_aln 1 rfl hL5 rfl ?_
  refine m_gfr so55 rfl hw rfl (by decide) ?_
  refine f_il 0 rfl hL5 rfl ?_
  refine f_s [fi (0), fi (0), .ref 66] rfl rfl ?_
  refine m_ias sa66 rfl hw hm (by omega) (by omega) (by decide) (by decide) (fun hc7 hw7 hm7 => ?_)
  refine f_inc 0 [(4, fi (1)), (0, .ref 55), (1, fi (y)), (2, fi (s)), (3, fi (h))] rfl (by decide) hL5 rfl rfl (fun L6 hL6 => ?_)
  refine f_goto rfl ?_
  refine f_il 0 rfl hL6 rfl ?_
  refine f_s [fi (4), fi (1)] rfl rfl ?_
  refine f_ic rfl (by decide) (by decide) (fun c_9 => absurd (show (4 : Int) ≤ (1 : Int) from c_9) (by decide)) (fun _ => ?_)
  refine f_aln 1 rfl hL6 rfl ?_
  refine m_gfr so55 rfl hw7 rfl (by decide) ?_
  refine f_il 0 rfl hL6 rfl ?_
  refine f_s [fi (0), fi (1), .ref 66] rfl rfl ?_
  refine m_ias sa66 rfl hw7 hm7 (by omega) (by omega) (by decide) (by decide) (fun hc8 hw8 hm8 => ?_)
  refine f_inc 0 [(4, fi (2)), (0, .ref 55), (1, fi (y)), (2, fi (s)), (3, fi (h))] rfl (by decide) hL6 rfl rfl (fun L7 hL7 => ?_)
  refine f_goto rfl ?_
  refine f_il 0 rfl hL7 rfl ?_
  refine f_s [fi (4), fi (2)] rfl rfl ?_
  refine f_ic rfl (by decide) (by decide) (fun c_9 => absurd (show (4 : Int) ≤ (2 : Int) from c_9) (by decide)) (fun _ => ?_)
  refine f_aln 1 rfl hL7 rfl ?_
  refine m_gfr so55 rfl hw8 rfl (by decide) ?_
  refine f_il 0 rfl hL7 rfl ?_
  refine f_s [fi (0), fi (2), .ref 66] rfl rfl ?_
  refine m_ias sa66 rfl hw8 hm8 (by omega) (by omega) (by decide) (by decide) (fun hc9 hw9 hm9 => ?_)
  refine f_inc 0 [(4, fi (3)), (0, .ref 55), (1, fi (y)), (2, fi (s)), (3, fi (h))] rfl (by decide) hL7 rfl rfl (fun L8 hL8 => ?_)
  refine f_goto rfl ?_
  refine f_il 0 rfl hL8 rfl ?_
  refine f_s [fi (4), fi (3)] rfl rfl ?_
  refine f_ic rfl (by decide) (by decide) (fun c_9 => absurd (show (4 : Int) ≤ (3 : Int) from c_9) (by decide)) (fun _ => ?_)
  refine f_aln 1 rfl hL8 rfl ?_
  refine m_gfr so55 rfl hw9 rfl (by decide) ?_
  refine f_il 0 rfl hL8 rfl ?_
  refine f_s [fi (0), fi (3), .ref 66] rfl rfl ?_
  refine m_ias sa66 rfl hw9 hm9 (by omega) (by omega) (by decide) (by decide) (fun hc10 hw10 hm10 => ?_)
  refine f_inc 0 [(4, fi (4)), (0, .ref 55), (1, fi (y)), (2, fi (s)), (3, fi (h))] rfl (by decide) hL8 rfl rfl (fun L9 hL9 => ?_)
  refine f_goto rfl ?_
  refine f_il 0 rfl hL9 rfl ?_
  refine f_s [fi (4), fi (4)] rfl rfl ?_
  refine f_ic rfl (by decide) (by decide) (fun _ => ?_) (fun c_9 => absurd (show (4 : Int) ≤ (4 : Int) from (by decide)) c_9)
  refine f_s [fi (0)] rfl rfl ?_
  refine f_ist [(4, fi (0)), (0, .ref 55), (1, fi (y)), (2, fi (s)), (3, fi (h))] rfl (by decide) hL9 rfl (fun L10 hL10 => ?_)
  have hm9 : gi hc10 = wyM m b (z4 g) := hm10.trans (by rw [wy_u, wy_u, wy_u, wy_u]; rfl)
  exact hK P hc10 0 (z4 g) _ hw10 hm9 (by omega) (fun k hk => by rw [z4_0 g hk]; omega) (hL10.sel [0, 1, 2, 3, 4] rfl))
set_option maxHeartbeats 1000000 in
theorem t117_1 {m : Nat → Nat → Int} {N P : Nat} (hN : m 55 0 = (N : Int)) (hP : m 55 1 = (P : Int)) (hN4 : N ≤ 4) (hP5 : P ≤ 5) {b : Int} {g : Nat → Int} {y s : Int} {Y : Nat} (hy : y = (Y : Int)) (hY : Y ≤ 4000) (rs : -2147483648 ≤ s ∧ s ≤ 2147483647) (hR0 : ∀ q i, -2147483648 ≤ m q i ∧ m q i ≤ 2147483647) : h_M 117 [.ref 55, fi (y), fi (s), fi (-9)] (wyM m b g) (some (fi (bI (iw N Y (wb1 m s) rf1 P 0 (z4 g)).1))) (wyM m b (iw N Y (wb1 m s) rf1 P 0 (z4 g)).2) := h_M_of (R := ev_r117) rfl (fun hc hw hm => by
  have hL : f_L (lv_args 0 [.ref 55, fi (y), fi (s), fi (-9)]) [(0, .ref 55), (1, fi (y)), (2, fi (s)), (3, fi (-9))] := f_L_of rfl
  generalize lv_args 0 [.ref 55, fi (y), fi (s), fi (-9)] = L at hL
  show x_W none (2, 0, 7, 3, 11, 3, 66, 0, 0, ev_t117) 0 L [] hc 0 0 _
  have hR := gi_R hm
  have hK : ∀ (j : Nat) (hc : ev_H) (p : Int) (g : Nat → Int) (L : ev_L), y_in yGw hc → gi hc = wyM m b g → (0 ≤ p ∧ p + j = (P : Int)) → (∀ k, k < 4 → 0 ≤ g k ∧ g k + j ≤ 10) → f_L L [(4, fi (p)), (0, .ref 55), (1, fi (y)), (2, fi (s)), (3, fi (-9))] → x_W none (2, 0, 7, 3, 11, 3, 66, 0, 0, ev_t117) 26 L [] hc 0 0 (fun r' h' => r' = some (fi (bI (iw N Y (wb1 m s) rf1 j (p).toNat g).1)) ∧ y_in yGw h' ∧ gi h' = wyM m b (iw N Y (wb1 m s) rf1 j (p).toNat g).2) := by
    intro j
    induction j with
    | zero =>
      intro hc p g L hw hm hp9 hg hL
      refine f_il 0 rfl hL rfl ?_
      refine f_aln 1 rfl hL rfl ?_
      refine m_gfi so55 ((P : Int)) rfl hw hm rfl ((wy_55 (by decide)).trans hP) ?_
      refine f_ic rfl (by omega) (by omega) (fun _ => ?_) (fun c_9 => absurd (show ((P : Int) : Int) ≤ (p : Int) from (by omega)) c_9)
      refine f_s [fi (1)] rfl rfl ?_
      exact f_ret2 rfl (Or.inr rfl) ⟨rfl, hw, hm⟩
    | succ j ih =>
      intro hc p g L hw hm hp9 hg hL
      refine f_il 0 rfl hL rfl ?_
      refine f_aln 1 rfl hL rfl ?_
      refine m_gfi so55 ((P : Int)) rfl hw hm rfl ((wy_55 (by decide)).trans hP) ?_
      refine f_ic rfl (by omega) (by omega) (fun c_9 => absurd (show ((P : Int) : Int) ≤ (p : Int) from c_9) (by omega)) (fun _ => ?_)
      refine f_aln 1 rfl hL rfl ?_
      refine f_iln 2 rfl hL rfl ?_
      refine f_il 0 rfl hL rfl ?_
      obtain ⟨K, eK⟩ : ∃ K : Int, K = ((Y / (N + 1) ^ j % (N + 1) : Nat) : Int) - 1 := ⟨_, rfl⟩
      have d1 : Y / (N + 1) ^ j % (N + 1) < N + 1 := Nat.mod_lt _ (by omega)
      refine m_k1 (t116 (m := wyM m b g) (j := j) ((wy_55 (by decide)).trans hN) ((wy_55 (by decide)).trans hP) hN4 hP5 hy hY (by omega) eK) hw hm rfl rfl rfl (m_ar so55 hw rfl) rfl (fun hc1 hw1 hm1 => ?_)
      refine f_ist [(5, fi (K)), (4, fi (p)), (0, .ref 55), (1, fi (y)), (2, fi (s)), (3, fi (-9))] rfl (by decide) hL rfl (fun L1 hL1 => ?_)
      refine f_il 0 rfl hL1 rfl ?_
      refine f_if rfl (by omega) (fun c0 => ?_) (fun c0 => ?_)
      · have c0 : (K : Int) < (0 : Int) := c0
        refine f_inc 1 [(4, fi (p + 1)), (5, fi (K)), (0, .ref 55), (1, fi (y)), (2, fi (s)), (3, fi (-9))] rfl (by decide) hL1 rfl rfl (fun L2 hL2 => ?_)
        refine f_goto rfl ?_
        have e7 : Y / (N + 1) ^ j % (N + 1) = 0 := by omega
        have e9 : iw N Y (wb1 m s) rf1 (j + 1) (p).toNat g = iw N Y (wb1 m s) rf1 j (p + 1).toNat g := by
          rw [show (p + 1).toNat = (p).toNat + 1 by omega]
          show iwS (wb1 m s) rf1 (fun g => iw N Y (wb1 m s) rf1 j ((p).toNat + 1) g) (p).toNat g (Y / (N + 1) ^ j % (N + 1)) = _
          rw [e7]
          rfl
        rw [e9]
        exact ih hc1 _ _ _ hw1 hm1 (by omega) (fun k hk => by have := hg k hk; omega) (hL2.sel [0, 2, 3, 4, 5] rfl)
      · have c0 : ¬ ((K : Int) < (0 : Int)) := c0
        have e7 : Y / (N + 1) ^ j % (N + 1) = (K).toNat + 1 := by omega
        have r8 := hg (K).toNat (by omega)
        refine f_aln 2 rfl hL1 rfl ?_
        refine m_gfr so55 rfl hw1 rfl (by decide) ?_
        refine f_il 0 rfl hL1 rfl ?_
        refine f_s [fi (K), .ref 66, fi (K), .ref 66] rfl rfl ?_
        refine m_ia sa66 (g (K).toNat) rfl hw1 hm1 (by omega) (by omega) (by decide) wy_66 ?_
        refine f_s [fi (1), fi (g (K).toNat), fi (K), .ref 66] rfl rfl ?_
        refine f_iadd rfl ?_
        refine m_ias sa66 rfl hw1 hm1 (by omega) (by omega) (by decide) (by omega) (fun hc2 hw2 hm2 => ?_)
        have hm9 : gi hc2 = wyM m b (up1 g (K).toNat (g (K).toNat + 1)) := hm2.trans wy_u
        have ep : (((p).toNat : Nat) : Int) = p := by omega
        have ek : (((K).toNat : Nat) : Int) = K := by omega
        have es : iw N Y (wb1 m s) rf1 (j + 1) (p).toNat g = (if (wb1 m s) (p).toNat (K).toNat = true ∧ g (K).toNat + 1 ≤ rf1 (K).toNat then iw N Y (wb1 m s) rf1 j ((p).toNat + 1) (up1 g (K).toNat (g (K).toNat + 1)) else (false, (up1 g (K).toNat (g (K).toNat + 1)))) := by
          show iwS (wb1 m s) rf1 (fun g => iw N Y (wb1 m s) rf1 j ((p).toNat + 1) g) (p).toNat g (Y / (N + 1) ^ j % (N + 1)) = _
          rw [e7]
          rfl
        refine f_iln 5 rfl hL1 rfl ?_
        refine f_if rfl (by decide) (fun c_9 => absurd (show (0 : Int) ≤ (-9 : Int) from c_9) (by decide)) (fun _ => ?_)
        refine f_aln 2 rfl hL1 rfl ?_
        refine f_s [fi (0), .ref 55] rfl rfl ?_
        refine f_il 1 rfl hL1 rfl ?_
        refine m_k1 (show h_M 74 [.ref 55, fi (0), fi (p)] (wyM m b (up1 g (K).toNat (g (K).toNat + 1))) (some (fi (bI (decide (iA (iR (m 61 16) (p)) (1) = 1))))) (wyM m b (up1 g (K).toNat (g (K).toNat + 1))) from t74_0 (m := wyM m b (up1 g (K).toNat (g (K).toNat + 1))) (by omega)) hw2 hm9 rfl rfl rfl (m_ar so55 hw2 rfl) rfl (fun hc3 hw3 hm3 => ?_)
        refine f_if rfl (bI_r _) (fun c1 => ?_) (fun c1 => ?_)
        · have c1 : ¬ (bI (decide (iA (iR (m 61 16) (p)) (1) = 1)) : Int) = (0 : Int) := c1
          have c1 : iA (iR (m 61 16) (p)) (1) = 1 := bI_t c1
          refine f_s [fi (0)] rfl rfl ?_
          refine f_goto rfl ?_
          refine f_ist [(6, fi (0)), (5, fi (K)), (4, fi (p)), (0, .ref 55), (1, fi (y)), (2, fi (s)), (3, fi (-9))] rfl (by decide) hL1 rfl (fun L3 hL3 => ?_)
          refine f_il 0 rfl hL3 rfl ?_
          refine f_if rfl (by decide) (fun _ => ?_) (fun c_9 => absurd (show (0 : Int) = (0 : Int) from (by decide)) c_9)
          refine f_s [fi (0)] rfl rfl ?_
          have e9 : iw N Y (wb1 m s) rf1 (j + 1) (p).toNat g = (false, (up1 g (K).toNat (g (K).toNat + 1))) := es.trans (if_neg (fun z => by
            have y := z.1; unfold wb1 at y; rw [ep, ek] at y; have y := of_decide_eq_true y; exact y.1 c1))
          exact f_ret2 rfl (Or.inl rfl) ⟨by rw [e9]; rfl, hw3, by rw [e9]; exact hm3⟩
        · have c1 : ¬ (¬ (bI (decide (iA (iR (m 61 16) (p)) (1) = 1)) : Int) = (0 : Int)) := c1
          have c1 : ¬ (iA (iR (m 61 16) (p)) (1) = 1) := bI_n c1
          refine f_s [fi (1)] rfl rfl ?_
          refine f_goto rfl ?_
          refine f_ist [(6, fi (1)), (5, fi (K)), (4, fi (p)), (0, .ref 55), (1, fi (y)), (2, fi (s)), (3, fi (-9))] rfl (by decide) hL1 rfl (fun L4 hL4 => ?_)
          refine f_il 0 rfl hL4 rfl ?_
          refine f_if rfl (by decide) (fun c_9 => absurd (show (1 : Int) = (0 : Int) from c_9) (by decide)) (fun _ => ?_)
          refine f_iln 5 rfl hL4 rfl ?_
          refine f_il 1 rfl hL4 rfl ?_
          refine m_k1 (t73 rs (by omega)) hw3 hm3 rfl rfl rfl rfl rfl (fun hc4 hw4 hm4 => ?_)
          refine f_if rfl (bI_r _) (fun c2 => ?_) (fun c2 => ?_)
          · have c2 : (bI (decide (iA (iR (s) (K)) (1) = 1)) : Int) = (0 : Int) := c2
            have c2 : ¬ (iA (iR (s) (K)) (1) = 1) := bI_f c2
            refine f_s [fi (0)] rfl rfl ?_
            have e9 : iw N Y (wb1 m s) rf1 (j + 1) (p).toNat g = (false, (up1 g (K).toNat (g (K).toNat + 1))) := es.trans (if_neg (fun z => by
              have y := z.1; unfold wb1 at y; rw [ep, ek] at y; have y := of_decide_eq_true y; exact c2 y.2.1))
            exact f_ret2 rfl (Or.inl rfl) ⟨by rw [e9]; rfl, hw4, by rw [e9]; exact hm4⟩
          · have c2 : ¬ ((bI (decide (iA (iR (s) (K)) (1) = 1)) : Int) = (0 : Int)) := c2
            have c2 : iA (iR (s) (K)) (1) = 1 := bI_t c2
            refine f_aln 3 rfl hL4 rfl ?_
            refine m_gfr so55 rfl hw4 rfl (by decide) ?_
            refine f_il 2 rfl hL4 rfl ?_
            refine m_ia sa60 (m 60 (p).toNat) rfl hw4 hm4 (by omega) (by omega) (by decide) (wy_ne (by decide) (by decide)) ?_
            refine f_il 1 rfl hL4 rfl ?_
            refine m_k1 (t73 (hR0 60 _) (by omega)) hw4 hm4 rfl rfl rfl rfl rfl (fun hc5 hw5 hm5 => ?_)
            refine f_if rfl (bI_r _) (fun c3 => ?_) (fun c3 => ?_)
            · have c3 : (bI (decide (iA (iR (m 60 (p).toNat) (K)) (1) = 1)) : Int) = (0 : Int) := c3
              have c3 : ¬ (iA (iR (m 60 (p).toNat) (K)) (1) = 1) := bI_f c3
              refine f_s [fi (0)] rfl rfl ?_
              have e9 : iw N Y (wb1 m s) rf1 (j + 1) (p).toNat g = (false, (up1 g (K).toNat (g (K).toNat + 1))) := es.trans (if_neg (fun z => by
                have y := z.1; unfold wb1 at y; rw [ep, ek] at y; have y := of_decide_eq_true y; exact c3 y.2.2))
              exact f_ret2 rfl (Or.inl rfl) ⟨by rw [e9]; rfl, hw5, by rw [e9]; exact hm5⟩
            · have c3 : ¬ ((bI (decide (iA (iR (m 60 (p).toNat) (K)) (1) = 1)) : Int) = (0 : Int)) := c3
              have c3 : iA (iR (m 60 (p).toNat) (K)) (1) = 1 := bI_t c3
              refine f_aln 3 rfl hL4 rfl ?_
              refine m_gfr so55 rfl hw5 rfl (by decide) ?_
              refine f_il 1 rfl hL4 rfl ?_
              refine m_ia sa66 (g (K).toNat + 1) rfl hw5 hm5 (by omega) (by omega) (by decide) (wy_66.trans (if_pos rfl)) ?_
              refine f_iln 6 rfl hL4 rfl ?_
              refine f_if rfl (by decide) (fun c_9 => absurd (show (0 : Int) ≤ (-9 : Int) from c_9) (by decide)) (fun _ => ?_)
              refine f_s [fi (1), fi (g (K).toNat + 1)] rfl rfl ?_
              refine f_goto rfl ?_
              have e6 : rf1 (K).toNat = 1 := rfl
              refine f_ic rfl (by omega) (by decide) (fun c4 => ?_) (fun c4 => ?_)
              · have c4 : (g (K).toNat + 1 : Int) ≤ (1 : Int) := c4
                refine f_inc 2 [(4, fi (p + 1)), (6, fi (1)), (5, fi (K)), (0, .ref 55), (1, fi (y)), (2, fi (s)), (3, fi (-9))] rfl (by decide) hL4 rfl rfl (fun L5 hL5 => ?_)
                refine f_goto rfl ?_
                have wt : (wb1 m s) (p).toNat (K).toNat = true := by unfold wb1; rw [ep, ek]; exact decide_eq_true ⟨c1, c2, c3⟩
                have e9 : iw N Y (wb1 m s) rf1 (j + 1) (p).toNat g = iw N Y (wb1 m s) rf1 j (p + 1).toNat (up1 g (K).toNat (g (K).toNat + 1)) := by
                  rw [es, if_pos ⟨wt, by rw [e6]; omega⟩, show (p + 1).toNat = (p).toNat + 1 by omega]
                rw [e9]
                exact ih hc5 _ _ _ hw5 hm5 (by omega) (fun k hk => by have := hg k hk; unfold up1; split <;> rename_i q <;> (try subst q) <;> omega) (hL5.sel [0, 3, 4, 5, 6] rfl)
              · have c4 : ¬ ((g (K).toNat + 1 : Int) ≤ (1 : Int)) := c4
                refine f_s [fi (0)] rfl rfl ?_
                have e9 : iw N Y (wb1 m s) rf1 (j + 1) (p).toNat g = (false, (up1 g (K).toNat (g (K).toNat + 1))) := es.trans (if_neg (fun z => by
                  have y := z.2; rw [e6] at y; omega))
                exact f_ret2 rfl (Or.inl rfl) ⟨by rw [e9]; rfl, hw5, by rw [e9]; exact hm5⟩
  refine f_s [fi (0)] rfl rfl ?_
  refine f_ist [(4, fi (0)), (0, .ref 55), (1, fi (y)), (2, fi (s)), (3, fi (-9))] rfl (by decide) hL rfl (fun L6 hL6 => ?_)
  refine f_il 0 rfl hL6 rfl ?_
  refine f_s [fi (4), fi (0)] rfl rfl ?_
  refine f_ic rfl (by decide) (by decide) (fun c_9 => absurd (show (4 : Int) ≤ (0 : Int) from c_9) (by decide)) (fun _ => ?_)
  refine f_aln 1 rfl hL6 rfl ?_
  refine m_gfr so55 rfl hw rfl (by decide) ?_
  refine f_il 0 rfl hL6 rfl ?_
  refine f_s [fi (0), fi (0), .ref 66] rfl rfl ?_
  refine m_ias sa66 rfl hw hm (by omega) (by omega) (by decide) (by decide) (fun hc6 hw6 hm6 => ?_)
  refine f_inc 0 [(4, fi (1)), (0, .ref 55), (1, fi (y)), (2, fi (s)), (3, fi (-9))] rfl (by decide) hL6 rfl rfl (fun L7 hL7 => ?_)
  refine f_goto rfl ?_
  refine f_il 0 rfl hL7 rfl ?_
  refine f_s [fi (4), fi (1)] rfl rfl ?_
  refine f_ic rfl (by decide) (by decide) (fun c_9 => absurd (show (4 : Int) ≤ (1 : Int) from c_9) (by decide)) (fun _ => ?_)
  refine f_aln 1 rfl hL7 rfl ?_
  refine m_gfr so55 rfl hw6 rfl (by decide) ?_
  refine f_il 0 rfl hL7 rfl ?_
  refine f_s [fi (0), fi (1), .ref 66] rfl rfl ?_
  refine m_ias sa66 rfl hw6 hm6 (by omega) (by omega) (by decide) (by decide) (fun hc7 hw7 hm7 => ?_)
  refine f_inc 0 [(4, fi (2)), (0, .ref 55), (1, fi (y)), (2, fi (s)), (3, fi (-9))] rfl (by decide) hL7 rfl rfl (fun L8 hL8 => ?_)
  refine f_goto rfl ?_
  refine f_il 0 rfl hL8 rfl ?_
  refine f_s [fi (4), fi (2)] rfl rfl ?_
  refine f_ic rfl (by decide) (by decide) (fun c_9 => absurd (show (4 : Int) ≤ (2 : Int) from c_9) (by decide)) (fun _ => ?_)
  refine f_aln 1 rfl hL8 rfl ?_
  refine m_gfr so55 rfl hw7 rfl (by decide) ?_
  refine f_il 0 rfl hL8 rfl ?_
  refine f_s [fi (0), fi (2), .ref 66] rfl rfl ?_
  refine m_ias sa66 rfl hw7 hm7 (by omega) (by omega) (by decide) (by decide) (fun hc8 hw8 hm8 => ?_)
  refine f_inc 0 [(4, fi (3)), (0, .ref 55), (1, fi (y)), (2, fi (s)), (3, fi (-9))] rfl (by decide) hL8 rfl rfl (fun L9 hL9 => ?_)
  refine f_goto rfl ?_
  refine f_il 0 rfl hL9 rfl ?_
  refine f_s [fi (4), fi (3)] rfl rfl ?_
  refine f_ic rfl (by decide) (by decide) (fun c_9 => absurd (show (4 : Int) ≤ (3 : Int) from c_9) (by decide)) (fun _ => ?_)
  refine f_aln 1 rfl hL9 rfl ?_
  refine m_gfr so55 rfl hw8 rfl (by decide) ?_
  refine f_il 0 rfl hL9 rfl ?_
  refine f_s [fi (0), fi (3), .ref 66] rfl rfl ?_
  refine m_ias sa66 rfl hw8 hm8 (by omega) (by omega) (by decide) (by decide) (fun hc9 hw9 hm9 => ?_)
  refine f_inc 0 [(4, fi (4)), (0, .ref 55), (1, fi (y)), (2, fi (s)), (3, fi (-9))] rfl (by decide) hL9 rfl rfl (fun L10 hL10 => ?_)
  refine f_goto rfl ?_
  refine f_il 0 rfl hL10 rfl ?_
  refine f_s [fi (4), fi (4)] rfl rfl ?_
  refine f_ic rfl (by decide) (by decide) (fun _ => ?_) (fun c_9 => absurd (show (4 : Int) ≤ (4 : Int) from (by decide)) c_9)
  refine f_s [fi (0)] rfl rfl ?_
  refine f_ist [(4, fi (0)), (0, .ref 55), (1, fi (y)), (2, fi (s)), (3, fi (-9))] rfl (by decide) hL10 rfl (fun L11 hL11 => ?_)
  have hm9 : gi hc9 = wyM m b (z4 g) := hm9.trans (by rw [wy_u, wy_u, wy_u, wy_u]; rfl)
  exact hK P hc9 0 (z4 g) _ hw9 hm9 (by omega) (fun k hk => by rw [z4_0 g hk]; omega) (hL11.sel [0, 1, 2, 3, 4] rfl))
