/-! fire of the reference; both together -/
def mnQ (v : Nat → Int) (N Y : Nat) : Nat → Int
  | 0 => 0
  | j + 1 => vd v (Y / (N + 1) ^ j % (N + 1)) + mnQ v N Y j
theorem mnQ_r {v : Nat → Int} {N Y : Nat} (hN4 : N ≤ 4) (hv : ∀ k, k < N → 0 ≤ v k ∧ v k ≤ 9) : ∀ j : Nat, 0 ≤ mnQ v N Y j ∧ mnQ v N Y j ≤ 9 * (j : Int)
  | 0 => ⟨Int.le_refl _, by show (0 : Int) ≤ 9 * ((0 : Nat) : Int); decide⟩
  | j + 1 => by
    have h := mnQ_r hN4 hv (Y := Y) j
    have d : Y / (N + 1) ^ j % (N + 1) < N + 1 := Nat.mod_lt _ (by omega)
    show 0 ≤ vd v (Y / (N + 1) ^ j % (N + 1)) + mnQ v N Y j ∧ vd v (Y / (N + 1) ^ j % (N + 1)) + mnQ v N Y j ≤ 9 * ((j + 1 : Nat) : Int)
    cases e : Y / (N + 1) ^ j % (N + 1) with
    | zero => show 0 ≤ (0 : Int) + mnQ v N Y j ∧ (0 : Int) + mnQ v N Y j ≤ _; omega
    | succ k =>
      have := hv k (by omega)
      show 0 ≤ v k + mnQ v N Y j ∧ v k + mnQ v N Y j ≤ _
      omega
theorem mnQ_L (v : Nat → Int) {N Y : Nat} (W : Nat → B4) : ∀ (j p : Nat), mnQ v N Y j = mnL v (N + 1) (LsF W p j) Y
  | 0, _ => rfl
  | j + 1, p => by
    show vd v (Y / (N + 1) ^ j % (N + 1)) + mnQ v N Y j = vd v (Y / (N + 1) ^ (LsF W (p + 1) j).length % (N + 1)) + mnL v (N + 1) (LsF W (p + 1) j) Y
    rw [LsF_len, mnQ_L v W j (p + 1)]
def mlq (v : Nat → Int) (N P : Nat) (wb : Nat → Nat → Bool) (Rf : Nat → Int) : Nat → Nat → Int → Int → (Nat → Int) → Int × Int × (Nat → Int)
  | 0, _, mo, be, g => (mo, be, g)
  | f + 1, Y, mo, be, g => if (iw N Y wb Rf P 0 (z4 g)).1 = true ∧ mo < mnQ v N Y P then mlq v N P wb Rf f (Y + 1) (mnQ v N Y P) (Y : Int) (iw N Y wb Rf P 0 (z4 g)).2 else mlq v N P wb Rf f (Y + 1) mo be (iw N Y wb Rf P 0 (z4 g)).2
section MQ
variable {N P : Nat} {wb : Nat → Nat → Bool} {Rf : Nat → Int} {v : Nat → Int}
def mlJ (v : Nat → Int) (N P : Nat) (wb : Nat → Nat → Bool) (Rf : Nat → Int) (Y : Nat) (mo be : Int) : Prop := (∀ y, y < Y → okL (N + 1) (LsF (wb4 wb) 0 P) Rf y = true → mnL v (N + 1) (LsF (wb4 wb) 0 P) y ≤ mo) ∧ ((mo = -9 ∧ ∀ y, y < Y → ¬ okL (N + 1) (LsF (wb4 wb) 0 P) Rf y = true) ∨ ∃ n : Nat, be = (n : Int) ∧ n < Y ∧ okL (N + 1) (LsF (wb4 wb) 0 P) Rf n = true ∧ mnL v (N + 1) (LsF (wb4 wb) 0 P) n = mo ∧ ∀ y, y < n → okL (N + 1) (LsF (wb4 wb) 0 P) Rf y = true → mnL v (N + 1) (LsF (wb4 wb) 0 P) y < mo)
theorem mlq_I (hN4 : N ≤ 4) (hv : ∀ k, k < N → 0 ≤ v k ∧ v k ≤ 9) : ∀ (f Y : Nat) (mo be : Int) (g : Nat → Int), mlJ v N P wb Rf Y mo be → mlJ v N P wb Rf (Y + f) (mlq v N P wb Rf f Y mo be g).1 (mlq v N P wb Rf f Y mo be g).2.1
  | 0, Y, mo, be, g, h => h
  | f + 1, Y, mo, be, g, h => by
    have eo : (iw N Y wb Rf P 0 (z4 g)).1 = okL (N + 1) (LsF (wb4 wb) 0 P) Rf Y := iw_ok hN4 P 0 (z4 g) Rf (fun k hk => by rw [z4_0 g hk]; omega)
    have em : mnQ v N Y P = mnL v (N + 1) (LsF (wb4 wb) 0 P) Y := mnQ_L v (wb4 wb) P 0
    have rm0 := mnQ_r hN4 hv (Y := Y) P
    obtain ⟨h1, h2⟩ := h
    have e2 : Y + (f + 1) = (Y + 1) + f := by omega
    rw [e2]
    by_cases c : (iw N Y wb Rf P 0 (z4 g)).1 = true ∧ mo < mnQ v N Y P
    · have e : mlq v N P wb Rf (f + 1) Y mo be g = mlq v N P wb Rf f (Y + 1) (mnQ v N Y P) (Y : Int) (iw N Y wb Rf P 0 (z4 g)).2 := if_pos c
      rw [e]
      refine mlq_I hN4 hv f (Y + 1) _ _ _ ⟨fun y hy ho => ?_, Or.inr ⟨Y, rfl, by omega, by rw [← eo]; exact c.1, em.symm, fun y hy ho => ?_⟩⟩
      · by_cases c2 : y < Y
        · have := h1 y c2 ho; have := c.2; omega
        · have : y = Y := by omega
          subst this
          omega
      · have := h1 y hy ho; have := c.2; omega
    · have e : mlq v N P wb Rf (f + 1) Y mo be g = mlq v N P wb Rf f (Y + 1) mo be (iw N Y wb Rf P 0 (z4 g)).2 := if_neg c
      rw [e]
      have no : okL (N + 1) (LsF (wb4 wb) 0 P) Rf Y = true → mnL v (N + 1) (LsF (wb4 wb) 0 P) Y ≤ mo := fun ho => by
        by_cases c2 : mo < mnQ v N Y P
        · exact absurd ⟨by rw [eo]; exact ho, c2⟩ c
        · omega
      refine mlq_I hN4 hv f (Y + 1) _ _ _ ⟨fun y hy ho => ?_, ?_⟩
      · by_cases c2 : y < Y
        · exact h1 y c2 ho
        · have : y = Y := by omega
          subst this
          exact no ho
      · rcases h2 with ⟨a1, a2⟩ | ⟨n, a1, a2, a3⟩
        · refine Or.inl ⟨a1, fun y hy ho => ?_⟩
          by_cases c2 : y < Y
          · exact a2 y c2 ho
          · have : y = Y := by omega
            subst this
            have := no ho
            omega
        · exact Or.inr ⟨n, a1, by omega, a3⟩
theorem mlq_is (hN4 : N ≤ 4) (hv : ∀ k, k < N → 0 ≤ v k ∧ v k ≤ 9) (hb : ∀ p, p < P → ∀ k, wb p k = true → k < 4 → k < N) (be : Int) (g : Nat → Int) : (mlq v N P wb Rf ((N + 1) ^ P) 0 (-9) be g).1 = hg v (LsF (wb4 wb) 0 P) Rf ∧ (mlq v N P wb Rf ((N + 1) ^ P) 0 (-9) be g).2.1 = ((gn v (N + 1) (LsF (wb4 wb) 0 P) Rf : Nat) : Int) := by
  have hI := mlq_I (P := P) (wb := wb) (Rf := Rf) hN4 hv ((N + 1) ^ P) 0 (-9) be g ⟨fun y hy => absurd hy (Nat.not_lt_zero y), Or.inl ⟨rfl, fun y hy => absurd hy (Nat.not_lt_zero y)⟩⟩
  rw [Nat.zero_add] at hI
  obtain ⟨h1, h2⟩ := hI
  have hT : 0 < (N + 1) ^ P := Nat.pow_pos (by omega)
  have hl : (LsF (wb4 wb) 0 P).length = P := LsF_len _ _ _
  rcases h2 with ⟨-, a2⟩ | ⟨n, a1, a2, a3, a4, a5⟩
  · exact absurd (okL_0 _ _ _) (a2 0 hT)
  · have := best_is v (b := N + 1) (by omega) (l := LsF (wb4 wb) 0 P) (R := Rf) (fun w hw k hk => by
      obtain ⟨q, -, q2, rfl⟩ := LsF_in _ _ _ _ hw
      have k4 := bk_lt hk
      rw [wb4_k wb q k4] at hk
      have := hb q (by omega) k hk k4
      omega) (mo := (mlq v N P wb Rf ((N + 1) ^ P) 0 (-9) be g).1) (be := n) (by rw [hl]; exact a2) a3 a4 (fun y hy => h1 y (by rw [hl] at hy; exact hy)) a5
    exact ⟨this.1, by rw [a1, this.2]⟩
end MQ
def vM (m : Nat → Nat → Int) : Nat → Int := fun k => m 57 k
theorem thM_w {m : Nat → Nat → Int} {b : Int} {g : Nat → Int} (N : Nat) : thM (wyM m b g) N = thM m N := by
  unfold thM
  rw [wy_ne (by decide) (by decide)]
set_option maxHeartbeats 1000000 in
theorem t134_0 {m : Nat → Nat → Int} {N P : Nat} (hN : m 55 0 = (N : Int)) (hP : m 55 1 = (P : Int)) (hN4 : N ≤ 4) (hP5 : P ≤ 5) (hR0 : ∀ q i, -2147483648 ≤ m q i ∧ m q i ≤ 2147483647) (hv : ∀ k, k < N → 0 ≤ vM m k ∧ vM m k ≤ 9) {MO : Int} {G : Nat} (hMO : (mlq (vM m) N P (wb1 m (thM m N)) rf1 ((N + 1) ^ P) 0 (-9) 0 (m 66)).1 = MO) (hBE : (mlq (vM m) N P (wb1 m (thM m N)) rf1 ((N + 1) ^ P) 0 (-9) 0 (m 66)).2.1 = ((G : Nat) : Int)) (hG : G ≤ 4000) : h_E 134 [.ref 55, fi (0)] m (some (fi (MO))) := h_E_of (R := ev_r134) rfl (fun hc hw hm => by
  have hL : f_L (lv_args 0 [.ref 55, fi (0)]) [(0, .ref 55), (1, fi (0))] := f_L_of rfl
  generalize lv_args 0 [.ref 55, fi (0)] = L at hL
  show x_W none (1, 0, 7, 1, 11, 4, 92, 0, 0, ev_t134) 0 L [] hc 0 0 _
  have hR := gi_R hm
  have hJ : ∀ (Q : Option Value → ev_H → Prop) (b : Int) (G : Nat → Int) (Y : Nat) (y mo be : Int), y = (Y : Int) → Y ≤ 4000 → ∀ (j : Nat) (hc : ev_H) (p c : Int) (L : ev_L), y_in yGw hc → gi hc = wyM m b G → (0 ≤ p ∧ p + j = (P : Int)) → f_L L [(6, fi (p)), (5, fi (c)), (4, fi (y)), (2, fi (mo)), (3, fi (be)), (0, .ref 55), (1, fi (0))] → (∀ (hc9 : ev_H) (L9 : ev_L), y_in yGw hc9 → gi hc9 = wyM m b G → f_L L9 [(5, fi (c + mnQ (vM m) N Y j)), (4, fi (y)), (2, fi (mo)), (3, fi (be)), (0, .ref 55), (1, fi (0))] → x_W none (1, 0, 7, 1, 11, 4, 92, 0, 0, ev_t134) 95 L9 [] hc9 0 0 Q) → x_W none (1, 0, 7, 1, 11, 4, 92, 0, 0, ev_t134) 47 L [] hc 0 0 Q := by
    intro Q b G Y y mo be hy hY j
    induction j with
    | zero =>
      intro hc p c L hw hm hp9 hL hQ
      refine f_il 0 rfl hL rfl ?_
      refine f_aln 5 rfl hL rfl ?_
      refine m_gfi so55 ((P : Int)) rfl hw hm rfl ((wy_55 (by decide)).trans hP) ?_
      refine f_ic rfl (by omega) (by omega) (fun _ => ?_) (fun c_9 => absurd (show ((P : Int) : Int) ≤ (p : Int) from (by omega)) c_9)
      exact hQ hc _ hw hm (show f_L _ [(5, fi (c + mnQ (vM m) N Y 0)), (4, fi (y)), (2, fi (mo)), (3, fi (be)), (0, .ref 55), (1, fi (0))] from (Int.add_zero c).symm ▸ hL.sel [1, 2, 3, 4, 5, 6] rfl)
    | succ j ih =>
      intro hc p c L hw hm hp9 hL hQ
      refine f_il 0 rfl hL rfl ?_
      refine f_aln 5 rfl hL rfl ?_
      refine m_gfi so55 ((P : Int)) rfl hw hm rfl ((wy_55 (by decide)).trans hP) ?_
      refine f_ic rfl (by omega) (by omega) (fun c_9 => absurd (show ((P : Int) : Int) ≤ (p : Int) from c_9) (by omega)) (fun _ => ?_)
      refine f_il 1 rfl hL rfl ?_
      refine f_aln 5 rfl hL rfl ?_
      refine f_il 2 rfl hL rfl ?_
      refine f_il 0 rfl hL rfl ?_
      obtain ⟨K, eK⟩ : ∃ K : Int, K = ((Y / (N + 1) ^ j % (N + 1) : Nat) : Int) - 1 := ⟨_, rfl⟩
      have d1 : Y / (N + 1) ^ j % (N + 1) < N + 1 := Nat.mod_lt _ (by omega)
      refine m_k1 (t116 (m := wyM m b G) (j := j) ((wy_55 (by decide)).trans hN) ((wy_55 (by decide)).trans hP) hN4 hP5 hy hY (by omega) eK) hw hm rfl rfl rfl (m_ar so55 hw rfl) rfl (fun hc1 hw1 hm1 => ?_)
      refine f_if rfl (by omega) (fun c1 => ?_) (fun c1 => ?_)
      · have c1 : (0 : Int) ≤ (K : Int) := c1
        refine f_aln 5 rfl hL rfl ?_
        refine m_gfr so55 rfl hw1 rfl (by decide) ?_
        refine f_aln 5 rfl hL rfl ?_
        refine f_il 2 rfl hL rfl ?_
        refine f_il 0 rfl hL rfl ?_
        refine m_k1 (t116 (m := wyM m b G) (j := j) ((wy_55 (by decide)).trans hN) ((wy_55 (by decide)).trans hP) hN4 hP5 hy hY (by omega) eK) hw1 hm1 rfl rfl rfl (m_ar so55 hw1 rfl) rfl (fun hc2 hw2 hm2 => ?_)
        refine m_ia sa57 (m 57 (K).toNat) rfl hw2 hm2 (by omega) (by omega) (by decide) (wy_ne (by decide) (by decide)) ?_
        refine f_iadd rfl ?_
        refine f_ist [(5, fi (c + (m 57 (K).toNat))), (6, fi (p)), (4, fi (y)), (2, fi (mo)), (3, fi (be)), (0, .ref 55), (1, fi (0))] rfl (by decide) hL rfl (fun L1 hL1 => ?_)
        refine f_inc 1 [(6, fi (p + 1)), (5, fi (c + (m 57 (K).toNat))), (4, fi (y)), (2, fi (mo)), (3, fi (be)), (0, .ref 55), (1, fi (0))] rfl (by decide) hL1 rfl rfl (fun L2 hL2 => ?_)
        refine f_goto rfl ?_
        have e9 : mnQ (vM m) N Y (j + 1) = m 57 (K).toNat + mnQ (vM m) N Y j := by
          show vd (vM m) (Y / (N + 1) ^ j % (N + 1)) + mnQ (vM m) N Y j = _
          rw [show Y / (N + 1) ^ j % (N + 1) = (K).toNat + 1 by omega]
          rfl
        refine ih hc2 _ _ _ hw2 hm2 (by omega) (hL2.sel [0, 1, 2, 3, 4, 5, 6] rfl) (fun hc9 L9 a1 a2 a3 => hQ hc9 L9 a1 a2 ?_)
        rw [e9, show c + (m 57 (K).toNat + mnQ (vM m) N Y j) = (c + m 57 (K).toNat) + mnQ (vM m) N Y j by omega]
        exact a3
      · have c1 : ¬ ((0 : Int) ≤ (K : Int)) := c1
        refine f_s [fi (0), fi (c)] rfl rfl ?_
        refine f_goto rfl ?_
        refine f_iadd rfl ?_
        refine f_ist [(5, fi (c + 0)), (6, fi (p)), (4, fi (y)), (2, fi (mo)), (3, fi (be)), (0, .ref 55), (1, fi (0))] rfl (by decide) hL rfl (fun L3 hL3 => ?_)
        refine f_inc 1 [(6, fi (p + 1)), (5, fi (c + 0)), (4, fi (y)), (2, fi (mo)), (3, fi (be)), (0, .ref 55), (1, fi (0))] rfl (by decide) hL3 rfl rfl (fun L4 hL4 => ?_)
        refine f_goto rfl ?_
        have e9 : mnQ (vM m) N Y (j + 1) = 0 + mnQ (vM m) N Y j := by
          show vd (vM m) (Y / (N + 1) ^ j % (N + 1)) + mnQ (vM m) N Y j = _
          rw [show Y / (N + 1) ^ j % (N + 1) = 0 by omega]
          rfl
        refine ih hc1 _ _ _ hw1 hm1 (by omega) (hL4.sel [0, 1, 2, 3, 4, 5, 6] rfl) (fun hc9 L9 a1 a2 a3 => hQ hc9 L9 a1 a2 ?_)
        rw [e9, show c + (0 + mnQ (vM m) N Y j) = (c + 0) + mnQ (vM m) N Y j by omega]
        exact a3
  have hK : ∀ (f : Nat) (hc : ev_H) (Y : Nat) (y mo be : Int) (g : Nat → Int) (L : ev_L), y_in yGw hc → gi hc = wyM m (m 55 20) g → y = (Y : Int) → Y + f = (N + 1) ^ P → (-9 ≤ mo ∧ mo ≤ 45) → (mlq (vM m) N P (wb1 m (thM m N)) rf1 f Y mo be g).1 = MO → (mlq (vM m) N P (wb1 m (thM m N)) rf1 f Y mo be g).2.1 = ((G : Nat) : Int) → f_L L [(4, fi (y)), (2, fi (mo)), (3, fi (be)), (0, .ref 55), (1, fi (0))] → x_W none (1, 0, 7, 1, 11, 4, 92, 0, 0, ev_t134) 8 L [] hc 0 0 (fun r' _ => r' = some (fi (MO))) := by
    intro f
    induction f with
    | zero =>
      intro hc Y y mo be g L hw hm hy hYf hmo hMO hBE hL
      have rT := pw_r (c := N + 1) (e := P) (by omega) (by omega) hP5
      refine f_il 0 rfl hL rfl ?_
      refine f_aln 3 rfl hL rfl ?_
      refine m_gfi so55 ((N : Int)) rfl hw hm rfl ((wy_55 (by decide)).trans hN) ?_
      refine f_s [fi (1), fi ((N : Int)), fi (y)] rfl rfl ?_
      refine f_iadd rfl ?_
      refine f_aln 3 rfl hL rfl ?_
      refine m_gfi so55 ((P : Int)) rfl hw hm rfl ((wy_55 (by decide)).trans hP) ?_
      refine m_k1 (t115 (c := N + 1) (e := P) (by omega) rfl (by omega)) hw hm rfl rfl rfl rfl rfl (fun hc3 hw3 hm3 => ?_)
      refine f_ic rfl (by omega) (by omega) (fun _ => ?_) (fun c_9 => absurd (show ((((N + 1) ^ P : Nat) : Int) : Int) ≤ (y : Int) from (by omega)) c_9)
      refine f_iln 4 rfl hL rfl ?_
      refine f_if rfl (by decide) (fun _ => ?_) (fun c_9 => absurd (show (0 : Int) = (0 : Int) from (by decide)) c_9)
      refine f_iln 1 rfl hL rfl ?_
      exact f_ret1 rfl (by rw [← hMO]; rfl)
    | succ f ih =>
      intro hc Y y mo be g L hw hm hy hYf hmo hMO hBE hL
      have rT := pw_r (c := N + 1) (e := P) (by omega) (by omega) hP5
      refine f_il 0 rfl hL rfl ?_
      refine f_aln 3 rfl hL rfl ?_
      refine m_gfi so55 ((N : Int)) rfl hw hm rfl ((wy_55 (by decide)).trans hN) ?_
      refine f_s [fi (1), fi ((N : Int)), fi (y)] rfl rfl ?_
      refine f_iadd rfl ?_
      refine f_aln 3 rfl hL rfl ?_
      refine m_gfi so55 ((P : Int)) rfl hw hm rfl ((wy_55 (by decide)).trans hP) ?_
      refine m_k1 (t115 (c := N + 1) (e := P) (by omega) rfl (by omega)) hw hm rfl rfl rfl rfl rfl (fun hc4 hw4 hm4 => ?_)
      refine f_ic rfl (by omega) (by omega) (fun c_9 => absurd (show ((((N + 1) ^ P : Nat) : Int) : Int) ≤ (y : Int) from c_9) (by omega)) (fun _ => ?_)
      refine f_aln 3 rfl hL rfl ?_
      refine f_il 0 rfl hL rfl ?_
      refine f_aln 3 rfl hL rfl ?_
      have t8 := t114 (m := wyM m (m 55 20) g) (N := N) ((wy_55 (by decide)).trans hN)
      rw [thM_w] at t8
      refine m_k1 t8 hw4 hm4 rfl rfl rfl (m_ar so55 hw4 rfl) rfl (fun hc5 hw5 hm5 => ?_)
      refine f_bipush (n := -9) rfl (by decide) ?_
      refine m_k1 (t117_1 (m := m) (b := m 55 20) (g := g) (Y := Y) (s := thM m N) hN hP hN4 hP5 hy (by omega) thM_r hR0) hw5 hm5 rfl rfl rfl (m_ar so55 hw5 rfl) rfl (fun hc6 hw6 hm6 => ?_)
      refine f_if rfl (bI_r _) (fun c1 => ?_) (fun c1 => ?_)
      · have c1 : (bI (iw N Y (wb1 m (thM m N)) rf1 P 0 (z4 g)).1 : Int) = (0 : Int) := c1
        refine f_inc 0 [(4, fi (y + 1)), (2, fi (mo)), (3, fi (be)), (0, .ref 55), (1, fi (0))] rfl (by decide) hL rfl rfl (fun L5 hL5 => ?_)
        refine f_goto rfl ?_
        have e9 : mlq (vM m) N P (wb1 m (thM m N)) rf1 (f + 1) Y mo be g = mlq (vM m) N P (wb1 m (thM m N)) rf1 f (Y + 1) mo be (iw N Y (wb1 m (thM m N)) rf1 P 0 (z4 g)).2 := if_neg (fun z => by have y := z.1; rw [bI0 c1] at y; cases y)
        rw [e9] at hMO hBE
        exact ih hc6 (Y + 1) _ _ _ _ _ hw6 hm6 (by omega) (by omega) hmo hMO hBE (hL5.sel [0, 1, 2, 3, 4] rfl)
      · have c1 : ¬ ((bI (iw N Y (wb1 m (thM m N)) rf1 P 0 (z4 g)).1 : Int) = (0 : Int)) := c1
        refine f_s [fi (0)] rfl rfl ?_
        refine f_ist [(5, fi (0)), (4, fi (y)), (2, fi (mo)), (3, fi (be)), (0, .ref 55), (1, fi (0))] rfl (by decide) hL rfl (fun L6 hL6 => ?_)
        refine f_s [fi (0)] rfl rfl ?_
        refine f_ist [(6, fi (0)), (5, fi (0)), (4, fi (y)), (2, fi (mo)), (3, fi (be)), (0, .ref 55), (1, fi (0))] rfl (by decide) hL6 rfl (fun L7 hL7 => ?_)
        have ok1 : (iw N Y (wb1 m (thM m N)) rf1 P 0 (z4 g)).1 = true := bI1 c1
        have rm0 := mnQ_r hN4 hv (Y := Y) P
        refine hJ _ (m 55 20) (iw N Y (wb1 m (thM m N)) rf1 P 0 (z4 g)).2 Y y mo be hy (by omega) P hc6 0 0 _ hw6 hm6 (by omega) (hL7.sel [0, 1, 2, 3, 4, 5, 6] rfl) (fun hc9 L9 hw9 hm9 hL9 => ?_)
        rw [show (0 : Int) + mnQ (vM m) N Y P = mnQ (vM m) N Y P by omega] at hL9
        refine f_il 0 rfl hL9 rfl ?_
        refine f_iln 2 rfl hL9 rfl ?_
        refine f_ic rfl (by omega) (by omega) (fun c2 => ?_) (fun c2 => ?_)
        · have c2 : (mnQ (vM m) N Y P : Int) ≤ (mo : Int) := c2
          refine f_iln 3 rfl hL9 rfl ?_
          refine f_istn [(3, fi (be)), (5, fi (mnQ (vM m) N Y P)), (4, fi (y)), (2, fi (mo)), (0, .ref 55), (1, fi (0))] rfl (by decide) hL9 rfl (fun L8 hL8 => ?_)
          refine f_il 1 rfl hL8 rfl ?_
          refine f_iln 3 rfl hL8 rfl ?_
          refine f_ic rfl (by omega) (by omega) (fun _ => ?_) (fun c_9 => absurd (show (mnQ (vM m) N Y P : Int) ≤ (mo : Int) from c2) c_9)
          refine f_iln 3 rfl hL8 rfl ?_
          refine f_istn [(2, fi (mo)), (3, fi (be)), (5, fi (mnQ (vM m) N Y P)), (4, fi (y)), (0, .ref 55), (1, fi (0))] rfl (by decide) hL8 rfl (fun L9 hL9 => ?_)
          refine f_inc 3 [(4, fi (y + 1)), (2, fi (mo)), (3, fi (be)), (5, fi (mnQ (vM m) N Y P)), (0, .ref 55), (1, fi (0))] rfl (by decide) hL9 rfl rfl (fun L10 hL10 => ?_)
          refine f_goto rfl ?_
          have e9 : mlq (vM m) N P (wb1 m (thM m N)) rf1 (f + 1) Y mo be g = mlq (vM m) N P (wb1 m (thM m N)) rf1 f (Y + 1) mo be (iw N Y (wb1 m (thM m N)) rf1 P 0 (z4 g)).2 := if_neg (fun z => by have y := z.2; omega)
          rw [e9] at hMO hBE
          exact ih hc9 (Y + 1) _ _ _ _ _ hw9 hm9 (by omega) (by omega) hmo hMO hBE (hL10.sel [0, 1, 2, 4, 5] rfl)
        · have c2 : ¬ ((mnQ (vM m) N Y P : Int) ≤ (mo : Int)) := c2
          refine f_il 1 rfl hL9 rfl ?_
          refine f_goto rfl ?_
          refine f_istn [(3, fi (y)), (5, fi (mnQ (vM m) N Y P)), (4, fi (y)), (2, fi (mo)), (0, .ref 55), (1, fi (0))] rfl (by decide) hL9 rfl (fun L11 hL11 => ?_)
          refine f_il 1 rfl hL11 rfl ?_
          refine f_iln 3 rfl hL11 rfl ?_
          refine f_ic rfl (by omega) (by omega) (fun c_9 => absurd (show (mnQ (vM m) N Y P : Int) ≤ (mo : Int) from c_9) c2) (fun _ => ?_)
          refine f_il 1 rfl hL11 rfl ?_
          refine f_goto rfl ?_
          refine f_istn [(2, fi (mnQ (vM m) N Y P)), (3, fi (y)), (5, fi (mnQ (vM m) N Y P)), (4, fi (y)), (0, .ref 55), (1, fi (0))] rfl (by decide) hL11 rfl (fun L12 hL12 => ?_)
          refine f_inc 3 [(4, fi (y + 1)), (2, fi (mnQ (vM m) N Y P)), (3, fi (y)), (5, fi (mnQ (vM m) N Y P)), (0, .ref 55), (1, fi (0))] rfl (by decide) hL12 rfl rfl (fun L13 hL13 => ?_)
          refine f_goto rfl ?_
          have e9 : mlq (vM m) N P (wb1 m (thM m N)) rf1 (f + 1) Y mo be g = mlq (vM m) N P (wb1 m (thM m N)) rf1 f (Y + 1) (mnQ (vM m) N Y P) y (iw N Y (wb1 m (thM m N)) rf1 P 0 (z4 g)).2 := by rw [hy]; exact if_pos ⟨ok1, by omega⟩
          rw [e9] at hMO hBE
          exact ih hc9 (Y + 1) _ _ _ _ _ hw9 hm9 (by omega) (by omega) (by omega) hMO hBE (hL13.sel [0, 1, 2, 4, 5] rfl)
  refine f_bipush (n := -9) rfl (by decide) ?_
  refine f_istn [(2, fi (-9)), (0, .ref 55), (1, fi (0))] rfl (by decide) hL rfl (fun L14 hL14 => ?_)
  refine f_s [fi (0)] rfl rfl ?_
  refine f_istn [(3, fi (0)), (2, fi (-9)), (0, .ref 55), (1, fi (0))] rfl (by decide) hL14 rfl (fun L15 hL15 => ?_)
  refine f_s [fi (0)] rfl rfl ?_
  refine f_ist [(4, fi (0)), (3, fi (0)), (2, fi (-9)), (0, .ref 55), (1, fi (0))] rfl (by decide) hL15 rfl (fun L16 hL16 => ?_)
  exact hK ((N + 1) ^ P) hc 0 0 (-9) 0 (m 66) _ hw (hm.trans (wy_0 m).symm) rfl (by omega) (by decide) hMO hBE (hL16.sel [0, 2, 1, 3, 4] rfl))
set_option maxHeartbeats 1000000 in
theorem t134_1 {m : Nat → Nat → Int} {N P : Nat} (hN : m 55 0 = (N : Int)) (hP : m 55 1 = (P : Int)) (hN4 : N ≤ 4) (hP5 : P ≤ 5) (hR0 : ∀ q i, -2147483648 ≤ m q i ∧ m q i ≤ 2147483647) (hv : ∀ k, k < N → 0 ≤ vM m k ∧ vM m k ≤ 9) {MO : Int} {G : Nat} (hMO : (mlq (vM m) N P (wb1 m (thM m N)) rf1 ((N + 1) ^ P) 0 (-9) 0 (m 66)).1 = MO) (hBE : (mlq (vM m) N P (wb1 m (thM m N)) rf1 ((N + 1) ^ P) 0 (-9) 0 (m 66)).2.1 = ((G : Nat) : Int)) (hG : G ≤ 4000) : h_E 134 [.ref 55, fi (1)] m (some (fi (fgJ N G P 0))) := h_E_of (R := ev_r134) rfl (fun hc hw hm => by
  have hL : f_L (lv_args 0 [.ref 55, fi (1)]) [(0, .ref 55), (1, fi (1))] := f_L_of rfl
  generalize lv_args 0 [.ref 55, fi (1)] = L at hL
  show x_W none (1, 0, 7, 1, 11, 4, 92, 0, 0, ev_t134) 0 L [] hc 0 0 _
  have hR := gi_R hm
  have hJ : ∀ (Q : Option Value → ev_H → Prop) (b : Int) (G : Nat → Int) (Y : Nat) (y mo be : Int), y = (Y : Int) → Y ≤ 4000 → ∀ (j : Nat) (hc : ev_H) (p c : Int) (L : ev_L), y_in yGw hc → gi hc = wyM m b G → (0 ≤ p ∧ p + j = (P : Int)) → f_L L [(6, fi (p)), (5, fi (c)), (4, fi (y)), (2, fi (mo)), (3, fi (be)), (0, .ref 55), (1, fi (1))] → (∀ (hc9 : ev_H) (L9 : ev_L), y_in yGw hc9 → gi hc9 = wyM m b G → f_L L9 [(5, fi (c + mnQ (vM m) N Y j)), (4, fi (y)), (2, fi (mo)), (3, fi (be)), (0, .ref 55), (1, fi (1))] → x_W none (1, 0, 7, 1, 11, 4, 92, 0, 0, ev_t134) 95 L9 [] hc9 0 0 Q) → x_W none (1, 0, 7, 1, 11, 4, 92, 0, 0, ev_t134) 47 L [] hc 0 0 Q := by
    intro Q b G Y y mo be hy hY j
    induction j with
    | zero =>
      intro hc p c L hw hm hp9 hL hQ
      refine f_il 0 rfl hL rfl ?_
      refine f_aln 5 rfl hL rfl ?_
      refine m_gfi so55 ((P : Int)) rfl hw hm rfl ((wy_55 (by decide)).trans hP) ?_
      refine f_ic rfl (by omega) (by omega) (fun _ => ?_) (fun c_9 => absurd (show ((P : Int) : Int) ≤ (p : Int) from (by omega)) c_9)
      exact hQ hc _ hw hm (show f_L _ [(5, fi (c + mnQ (vM m) N Y 0)), (4, fi (y)), (2, fi (mo)), (3, fi (be)), (0, .ref 55), (1, fi (1))] from (Int.add_zero c).symm ▸ hL.sel [1, 2, 3, 4, 5, 6] rfl)
    | succ j ih =>
      intro hc p c L hw hm hp9 hL hQ
      refine f_il 0 rfl hL rfl ?_
      refine f_aln 5 rfl hL rfl ?_
      refine m_gfi so55 ((P : Int)) rfl hw hm rfl ((wy_55 (by decide)).trans hP) ?_
      refine f_ic rfl (by omega) (by omega) (fun c_9 => absurd (show ((P : Int) : Int) ≤ (p : Int) from c_9) (by omega)) (fun _ => ?_)
      refine f_il 1 rfl hL rfl ?_
      refine f_aln 5 rfl hL rfl ?_
      refine f_il 2 rfl hL rfl ?_
      refine f_il 0 rfl hL rfl ?_
      obtain ⟨K, eK⟩ : ∃ K : Int, K = ((Y / (N + 1) ^ j % (N + 1) : Nat) : Int) - 1 := ⟨_, rfl⟩
      have d1 : Y / (N + 1) ^ j % (N + 1) < N + 1 := Nat.mod_lt _ (by omega)
      refine m_k1 (t116 (m := wyM m b G) (j := j) ((wy_55 (by decide)).trans hN) ((wy_55 (by decide)).trans hP) hN4 hP5 hy hY (by omega) eK) hw hm rfl rfl rfl (m_ar so55 hw rfl) rfl (fun hc1 hw1 hm1 => ?_)
      refine f_if rfl (by omega) (fun c1 => ?_) (fun c1 => ?_)
      · have c1 : (0 : Int) ≤ (K : Int) := c1
        refine f_aln 5 rfl hL rfl ?_
        refine m_gfr so55 rfl hw1 rfl (by decide) ?_
        refine f_aln 5 rfl hL rfl ?_
        refine f_il 2 rfl hL rfl ?_
        refine f_il 0 rfl hL rfl ?_
        refine m_k1 (t116 (m := wyM m b G) (j := j) ((wy_55 (by decide)).trans hN) ((wy_55 (by decide)).trans hP) hN4 hP5 hy hY (by omega) eK) hw1 hm1 rfl rfl rfl (m_ar so55 hw1 rfl) rfl (fun hc2 hw2 hm2 => ?_)
        refine m_ia sa57 (m 57 (K).toNat) rfl hw2 hm2 (by omega) (by omega) (by decide) (wy_ne (by decide) (by decide)) ?_
        refine f_iadd rfl ?_
        refine f_ist [(5, fi (c + (m 57 (K).toNat))), (6, fi (p)), (4, fi (y)), (2, fi (mo)), (3, fi (be)), (0, .ref 55), (1, fi (1))] rfl (by decide) hL rfl (fun L1 hL1 => ?_)
        refine f_inc 1 [(6, fi (p + 1)), (5, fi (c + (m 57 (K).toNat))), (4, fi (y)), (2, fi (mo)), (3, fi (be)), (0, .ref 55), (1, fi (1))] rfl (by decide) hL1 rfl rfl (fun L2 hL2 => ?_)
        refine f_goto rfl ?_
        have e9 : mnQ (vM m) N Y (j + 1) = m 57 (K).toNat + mnQ (vM m) N Y j := by
          show vd (vM m) (Y / (N + 1) ^ j % (N + 1)) + mnQ (vM m) N Y j = _
          rw [show Y / (N + 1) ^ j % (N + 1) = (K).toNat + 1 by omega]
          rfl
        refine ih hc2 _ _ _ hw2 hm2 (by omega) (hL2.sel [0, 1, 2, 3, 4, 5, 6] rfl) (fun hc9 L9 a1 a2 a3 => hQ hc9 L9 a1 a2 ?_)
        rw [e9, show c + (m 57 (K).toNat + mnQ (vM m) N Y j) = (c + m 57 (K).toNat) + mnQ (vM m) N Y j by omega]
        exact a3
      · have c1 : ¬ ((0 : Int) ≤ (K : Int)) := c1
        refine f_s [fi (0), fi (c)] rfl rfl ?_
        refine f_goto rfl ?_
        refine f_iadd rfl ?_
        refine f_ist [(5, fi (c + 0)), (6, fi (p)), (4, fi (y)), (2, fi (mo)), (3, fi (be)), (0, .ref 55), (1, fi (1))] rfl (by decide) hL rfl (fun L3 hL3 => ?_)
        refine f_inc 1 [(6, fi (p + 1)), (5, fi (c + 0)), (4, fi (y)), (2, fi (mo)), (3, fi (be)), (0, .ref 55), (1, fi (1))] rfl (by decide) hL3 rfl rfl (fun L4 hL4 => ?_)
        refine f_goto rfl ?_
        have e9 : mnQ (vM m) N Y (j + 1) = 0 + mnQ (vM m) N Y j := by
          show vd (vM m) (Y / (N + 1) ^ j % (N + 1)) + mnQ (vM m) N Y j = _
          rw [show Y / (N + 1) ^ j % (N + 1) = 0 by omega]
          rfl
        refine ih hc1 _ _ _ hw1 hm1 (by omega) (hL4.sel [0, 1, 2, 3, 4, 5, 6] rfl) (fun hc9 L9 a1 a2 a3 => hQ hc9 L9 a1 a2 ?_)
        rw [e9, show c + (0 + mnQ (vM m) N Y j) = (c + 0) + mnQ (vM m) N Y j by omega]
        exact a3
  have hK : ∀ (f : Nat) (hc : ev_H) (Y : Nat) (y mo be : Int) (g : Nat → Int) (L : ev_L), y_in yGw hc → gi hc = wyM m (m 55 20) g → y = (Y : Int) → Y + f = (N + 1) ^ P → (-9 ≤ mo ∧ mo ≤ 45) → (mlq (vM m) N P (wb1 m (thM m N)) rf1 f Y mo be g).1 = MO → (mlq (vM m) N P (wb1 m (thM m N)) rf1 f Y mo be g).2.1 = ((G : Nat) : Int) → f_L L [(4, fi (y)), (2, fi (mo)), (3, fi (be)), (0, .ref 55), (1, fi (1))] → x_W none (1, 0, 7, 1, 11, 4, 92, 0, 0, ev_t134) 8 L [] hc 0 0 (fun r' _ => r' = some (fi (fgJ N G P 0))) := by
    intro f
    induction f with
    | zero =>
      intro hc Y y mo be g L hw hm hy hYf hmo hMO hBE hL
      have rT := pw_r (c := N + 1) (e := P) (by omega) (by omega) hP5
      refine f_il 0 rfl hL rfl ?_
      refine f_aln 3 rfl hL rfl ?_
      refine m_gfi so55 ((N : Int)) rfl hw hm rfl ((wy_55 (by decide)).trans hN) ?_
      refine f_s [fi (1), fi ((N : Int)), fi (y)] rfl rfl ?_
      refine f_iadd rfl ?_
      refine f_aln 3 rfl hL rfl ?_
      refine m_gfi so55 ((P : Int)) rfl hw hm rfl ((wy_55 (by decide)).trans hP) ?_
      refine m_k1 (t115 (c := N + 1) (e := P) (by omega) rfl (by omega)) hw hm rfl rfl rfl rfl rfl (fun hc3 hw3 hm3 => ?_)
      refine f_ic rfl (by omega) (by omega) (fun _ => ?_) (fun c_9 => absurd (show ((((N + 1) ^ P : Nat) : Int) : Int) ≤ (y : Int) from (by omega)) c_9)
      refine f_iln 4 rfl hL rfl ?_
      refine f_if rfl (by decide) (fun c_9 => absurd (show (1 : Int) = (0 : Int) from c_9) (by decide)) (fun _ => ?_)
      refine f_aln 3 rfl hL rfl ?_
      refine f_iln 2 rfl hL rfl ?_
      refine m_k1 (t119 (m := wyM m (m 55 20) g) (Y := G) ((wy_55 (by decide)).trans hN) ((wy_55 (by decide)).trans hP) hN4 hP5 hBE hG) hw3 hm3 rfl rfl rfl (m_ar so55 hw3 rfl) rfl (fun hc4 hw4 hm4 => ?_)
      refine f_goto rfl ?_
      exact f_ret1 rfl (rfl)
    | succ f ih =>
      intro hc Y y mo be g L hw hm hy hYf hmo hMO hBE hL
      have rT := pw_r (c := N + 1) (e := P) (by omega) (by omega) hP5
      refine f_il 0 rfl hL rfl ?_
      refine f_aln 3 rfl hL rfl ?_
      refine m_gfi so55 ((N : Int)) rfl hw hm rfl ((wy_55 (by decide)).trans hN) ?_
      refine f_s [fi (1), fi ((N : Int)), fi (y)] rfl rfl ?_
      refine f_iadd rfl ?_
      refine f_aln 3 rfl hL rfl ?_
      refine m_gfi so55 ((P : Int)) rfl hw hm rfl ((wy_55 (by decide)).trans hP) ?_
      refine m_k1 (t115 (c := N + 1) (e := P) (by omega) rfl (by omega)) hw hm rfl rfl rfl rfl rfl (fun hc5 hw5 hm5 => ?_)
      refine f_ic rfl (by omega) (by omega) (fun c_9 => absurd (show ((((N + 1) ^ P : Nat) : Int) : Int) ≤ (y : Int) from c_9) (by omega)) (fun _ => ?_)
      refine f_aln 3 rfl hL rfl ?_
      refine f_il 0 rfl hL rfl ?_
      refine f_aln 3 rfl hL rfl ?_
      have t8 := t114 (m := wyM m (m 55 20) g) (N := N) ((wy_55 (by decide)).trans hN)
      rw [thM_w] at t8
      refine m_k1 t8 hw5 hm5 rfl rfl rfl (m_ar so55 hw5 rfl) rfl (fun hc6 hw6 hm6 => ?_)
      refine f_bipush (n := -9) rfl (by decide) ?_
      refine m_k1 (t117_1 (m := m) (b := m 55 20) (g := g) (Y := Y) (s := thM m N) hN hP hN4 hP5 hy (by omega) thM_r hR0) hw6 hm6 rfl rfl rfl (m_ar so55 hw6 rfl) rfl (fun hc7 hw7 hm7 => ?_)
      refine f_if rfl (bI_r _) (fun c1 => ?_) (fun c1 => ?_)
      · have c1 : (bI (iw N Y (wb1 m (thM m N)) rf1 P 0 (z4 g)).1 : Int) = (0 : Int) := c1
        refine f_inc 0 [(4, fi (y + 1)), (2, fi (mo)), (3, fi (be)), (0, .ref 55), (1, fi (1))] rfl (by decide) hL rfl rfl (fun L5 hL5 => ?_)
        refine f_goto rfl ?_
        have e9 : mlq (vM m) N P (wb1 m (thM m N)) rf1 (f + 1) Y mo be g = mlq (vM m) N P (wb1 m (thM m N)) rf1 f (Y + 1) mo be (iw N Y (wb1 m (thM m N)) rf1 P 0 (z4 g)).2 := if_neg (fun z => by have y := z.1; rw [bI0 c1] at y; cases y)
        rw [e9] at hMO hBE
        exact ih hc7 (Y + 1) _ _ _ _ _ hw7 hm7 (by omega) (by omega) hmo hMO hBE (hL5.sel [0, 1, 2, 3, 4] rfl)
      · have c1 : ¬ ((bI (iw N Y (wb1 m (thM m N)) rf1 P 0 (z4 g)).1 : Int) = (0 : Int)) := c1
        refine f_s [fi (0)] rfl rfl ?_
        refine f_ist [(5, fi (0)), (4, fi (y)), (2, fi (mo)), (3, fi (be)), (0, .ref 55), (1, fi (1))] rfl (by decide) hL rfl (fun L6 hL6 => ?_)
        refine f_s [fi (0)] rfl rfl ?_
        refine f_ist [(6, fi (0)), (5, fi (0)), (4, fi (y)), (2, fi (mo)), (3, fi (be)), (0, .ref 55), (1, fi (1))] rfl (by decide) hL6 rfl (fun L7 hL7 => ?_)
        have ok1 : (iw N Y (wb1 m (thM m N)) rf1 P 0 (z4 g)).1 = true := bI1 c1
        have rm0 := mnQ_r hN4 hv (Y := Y) P
        refine hJ _ (m 55 20) (iw N Y (wb1 m (thM m N)) rf1 P 0 (z4 g)).2 Y y mo be hy (by omega) P hc7 0 0 _ hw7 hm7 (by omega) (hL7.sel [0, 1, 2, 3, 4, 5, 6] rfl) (fun hc9 L9 hw9 hm9 hL9 => ?_)
        rw [show (0 : Int) + mnQ (vM m) N Y P = mnQ (vM m) N Y P by omega] at hL9
        refine f_il 0 rfl hL9 rfl ?_
        refine f_iln 2 rfl hL9 rfl ?_
        refine f_ic rfl (by omega) (by omega) (fun c2 => ?_) (fun c2 => ?_)
        · have c2 : (mnQ (vM m) N Y P : Int) ≤ (mo : Int) := c2
          refine f_iln 3 rfl hL9 rfl ?_
          refine f_istn [(3, fi (be)), (5, fi (mnQ (vM m) N Y P)), (4, fi (y)), (2, fi (mo)), (0, .ref 55), (1, fi (1))] rfl (by decide) hL9 rfl (fun L8 hL8 => ?_)
          refine f_il 1 rfl hL8 rfl ?_
          refine f_iln 3 rfl hL8 rfl ?_
          refine f_ic rfl (by omega) (by omega) (fun _ => ?_) (fun c_9 => absurd (show (mnQ (vM m) N Y P : Int) ≤ (mo : Int) from c2) c_9)
          refine f_iln 3 rfl hL8 rfl ?_
          refine f_istn [(2, fi (mo)), (3, fi (be)), (5, fi (mnQ (vM m) N Y P)), (4, fi (y)), (0, .ref 55), (1, fi (1))] rfl (by decide) hL8 rfl (fun L9 hL9 => ?_)
          refine f_inc 3 [(4, fi (y + 1)), (2, fi (mo)), (3, fi (be)), (5, fi (mnQ (vM m) N Y P)), (0, .ref 55), (1, fi (1))] rfl (by decide) hL9 rfl rfl (fun L10 hL10 => ?_)
          refine f_goto rfl ?_
          have e9 : mlq (vM m) N P (wb1 m (thM m N)) rf1 (f + 1) Y mo be g = mlq (vM m) N P (wb1 m (thM m N)) rf1 f (Y + 1) mo be (iw N Y (wb1 m (thM m N)) rf1 P 0 (z4 g)).2 := if_neg (fun z => by have y := z.2; omega)
          rw [e9] at hMO hBE
          exact ih hc9 (Y + 1) _ _ _ _ _ hw9 hm9 (by omega) (by omega) hmo hMO hBE (hL10.sel [0, 1, 2, 4, 5] rfl)
        · have c2 : ¬ ((mnQ (vM m) N Y P : Int) ≤ (mo : Int)) := c2
          refine f_il 1 rfl hL9 rfl ?_
          refine f_goto rfl ?_
          refine f_istn [(3, fi (y)), (5, fi (mnQ (vM m) N Y P)), (4, fi (y)), (2, fi (mo)), (0, .ref 55), (1, fi (1))] rfl (by decide) hL9 rfl (fun L11 hL11 => ?_)
          refine f_il 1 rfl hL11 rfl ?_
          refine f_iln 3 rfl hL11 rfl ?_
          refine f_ic rfl (by omega) (by omega) (fun c_9 => absurd (show (mnQ (vM m) N Y P : Int) ≤ (mo : Int) from c_9) c2) (fun _ => ?_)
          refine f_il 1 rfl hL11 rfl ?_
          refine f_goto rfl ?_
          refine f_istn [(2, fi (mnQ (vM m) N Y P)), (3, fi (y)), (5, fi (mnQ (vM m) N Y P)), (4, fi (y)), (0, .ref 55), (1, fi (1))] rfl (by decide) hL11 rfl (fun L12 hL12 => ?_)
          refine f_inc 3 [(4, fi (y + 1)), (2, fi (mnQ (vM m) N Y P)), (3, fi (y)), (5, fi (mnQ (vM m) N Y P)), (0, .ref 55), (1, fi (1))] rfl (by decide) hL12 rfl rfl (fun L13 hL13 => ?_)
          refine f_goto rfl ?_
          have e9 : mlq (vM m) N P (wb1 m (thM m N)) rf1 (f + 1) Y mo be g = mlq (vM m) N P (wb1 m (thM m N)) rf1 f (Y + 1) (mnQ (vM m) N Y P) y (iw N Y (wb1 m (thM m N)) rf1 P 0 (z4 g)).2 := by rw [hy]; exact if_pos ⟨ok1, by omega⟩
          rw [e9] at hMO hBE
          exact ih hc9 (Y + 1) _ _ _ _ _ hw9 hm9 (by omega) (by omega) (by omega) hMO hBE (hL13.sel [0, 1, 2, 4, 5] rfl)
  refine f_bipush (n := -9) rfl (by decide) ?_
  refine f_istn [(2, fi (-9)), (0, .ref 55), (1, fi (1))] rfl (by decide) hL rfl (fun L14 hL14 => ?_)
  refine f_s [fi (0)] rfl rfl ?_
  refine f_istn [(3, fi (0)), (2, fi (-9)), (0, .ref 55), (1, fi (1))] rfl (by decide) hL14 rfl (fun L15 hL15 => ?_)
  refine f_s [fi (0)] rfl rfl ?_
  refine f_ist [(4, fi (0)), (3, fi (0)), (2, fi (-9)), (0, .ref 55), (1, fi (1))] rfl (by decide) hL15 rfl (fun L16 hL16 => ?_)
  exact hK ((N + 1) ^ P) hc 0 0 (-9) 0 (m 66) _ hw (hm.trans (wy_0 m).symm) rfl (by omega) (by decide) hMO hBE (hL16.sel [0, 2, 1, 3, 4] rfl))
theorem hg_F (v : Nat → Int) (W : Nat → B4) {p j : Nat} (hpj : p + j ≤ 5) (hno : ∀ q, p + j ≤ q → q < 5 → W q = (false, false, false, false)) : hg v (LsF W p (5 - p)) = hg v (LsF W p j) := by
  rw [show 5 - p = j + (5 - p - j) by omega, LsF_app, LsF_no (5 - p - j) (p + j) (fun q h1 h2 => hno q h1 (by omega))]
  exact hg_app v (hg_es v _) _
theorem gd_F (v : Nat → Int) (W : Nat → B4) {p j : Nat} (hpj : p + (j + 1) ≤ 5) (hno : ∀ q, p + (j + 1) ≤ q → q < 5 → W q = (false, false, false, false)) (R : Nat → Int) : gd v (W p) (LsF W (p + 1) (4 - p)) R = gd v (W p) (LsF W (p + 1) j) R := by
  rw [show 4 - p = j + (4 - p - j) by omega, LsF_app, LsF_no (4 - p - j) (p + 1 + j) (fun q h1 h2 => hno q (by omega) (by omega))]
  exact gd_app v (hg_es v _) _ _ _
/-- names that are not there count for nothing -/
def mk4 (T w : B4) : B4 := isc w T
theorem bk_isc (U V : B4) (k : Nat) : bk (isc U V) k = (bk U k && bk V k) := by
  match k with
  | 0 => rfl
  | 1 => rfl
  | 2 => rfl
  | 3 => rfl
  | k + 4 => rfl
theorem dcr_no {T : B4} {R : Nat → Int} (h : ∀ k, ¬ bk T k = true → R k ≤ 0) (j : Nat) : ∀ k, ¬ bk T k = true → dcr R j k ≤ 0 := fun k hk => by
  have := h k hk
  show (if k = j then R k - 1 else R k) ≤ 0
  split <;> omega
theorem hk_mask (v : Nat → Int) {T w : B4} {g g' : (Nat → Int) → Int} (hg9 : ∀ R, (∀ k, ¬ bk T k = true → R k ≤ 0) → g' R = g R) {R : Nat → Int} (h : ∀ k, ¬ bk T k = true → R k ≤ 0) (k : Nat) : hk v (mk4 T w) g' R k = hk v w g R k := by
  unfold hk
  rw [hg9 R h, hg9 _ (dcr_no h k)]
  by_cases c : bk w k = true ∧ 0 < R k
  · have cT : bk T k = true := Classical.byContradiction (fun z => by have := h k z; omega)
    rw [if_pos c, if_pos ⟨by show bk (isc w T) k = true; rw [bk_isc, c.1, cT]; rfl, c.2⟩]
  · rw [if_neg c, if_neg (fun z => c ⟨by have y : bk (isc w T) k = true := z.1; rw [bk_isc, Bool.and_eq_true] at y; exact y.1, z.2⟩)]
theorem hg_mask (v : Nat → Int) (T : B4) : ∀ (l : List B4) (R : Nat → Int), (∀ k, ¬ bk T k = true → R k ≤ 0) → hg v (l.map (mk4 T)) R = hg v l R
  | [], _, _ => rfl
  | w :: ws, R, h => by
    have i := hg_mask v T ws
    show hg v (mk4 T w :: ws.map (mk4 T)) R = hg v (w :: ws) R
    rw [hg_s, hg_s, i R h, hk_mask v i h 0, hk_mask v i h 1, hk_mask v i h 2, hk_mask v i h 3]
theorem gd_mask (v : Nat → Int) (T w : B4) (ws : List B4) {R : Nat → Int} (h : ∀ k, ¬ bk T k = true → R k ≤ 0) : gd v (mk4 T w) (ws.map (mk4 T)) R = gd v w ws R := by
  have i := hg_mask v T ws
  have i2 : hg v (mk4 T w :: ws.map (mk4 T)) R = hg v (w :: ws) R := hg_mask v T (w :: ws) R h
  have e : ∀ k, gcB v (mk4 T w) (ws.map (mk4 T)) R k = gcB v w ws R k := fun k => by
    unfold gcB
    rw [i2, i _ (dcr_no h k)]
    by_cases c : 0 < R k
    · have cT : bk T k = true := Classical.byContradiction (fun z => by have := h k z; omega)
      have : bk (mk4 T w) k = bk w k := by show bk (isc w T) k = _; rw [bk_isc, cT, Bool.and_true]
      rw [this]
    · rw [decide_eq_false c, Bool.false_and, Bool.and_false, Bool.and_false]
  unfold gd
  rw [e 0, e 1, e 2, e 3, i R h, i2]
theorem Rd_no {T : B4} {R : Nat → Int} (h : ∀ k, ¬ bk T k = true → R k ≤ 0) (d : Nat) : ∀ k, ¬ bk T k = true → Rd R d k ≤ 0 := by
  cases d with
  | zero => exact h
  | succ j => exact dcr_no h j
theorem fwL_mask (v : Nat → Int) (T : B4) : ∀ (l : List B4) (R : Nat → Int) (a : Int), (∀ k, ¬ bk T k = true → R k ≤ 0) → fwL v (l.map (mk4 T)) R a = fwL v l R a
  | [], _, _, _ => rfl
  | w :: ws, R, a, h => by
    show fwL v (ws.map (mk4 T)) (Rd R (gd v (mk4 T w) (ws.map (mk4 T)) R)) (10 * a + (gd v (mk4 T w) (ws.map (mk4 T)) R : Int)) = fwL v ws (Rd R (gd v w ws R)) (10 * a + (gd v w ws R : Int))
    rw [gd_mask v T w ws h]
    exact fwL_mask v T ws _ _ (Rd_no h _)
/-- worths alike -/
theorem hg_v {v v' : Nat → Int} : ∀ (l : List B4), (∀ w ∈ l, ∀ k, bk w k = true → v k = v' k) → ∀ R, hg v l R = hg v' l R
  | [], _, _ => rfl
  | w :: ws, h, R => by
    have i := hg_v ws (fun w' hw' => h w' (List.mem_cons_of_mem _ hw'))
    have e : ∀ k, hk v w (hg v ws) R k = hk v' w (hg v' ws) R k := fun k => by
      unfold hk
      by_cases c : bk w k = true ∧ 0 < R k
      · rw [if_pos c, if_pos c, i, h w (List.mem_cons_self ..) k c.1]
      · rw [if_neg c, if_neg c, i]
    rw [hg_s, hg_s, i, e, e, e, e]
theorem gd_v {v v' : Nat → Int} {w : B4} {ws : List B4} (h : ∀ w' ∈ w :: ws, ∀ k, bk w' k = true → v k = v' k) (R : Nat → Int) : gd v w ws R = gd v' w ws R := by
  have i := hg_v ws (fun w' hw' => h w' (List.mem_cons_of_mem _ hw'))
  have i2 := hg_v (w :: ws) h
  have e : ∀ k, gcB v w ws R k = gcB v' w ws R k := fun k => by
    unfold gcB
    by_cases c : bk w k = true
    · rw [i, i2, h w (List.mem_cons_self ..) k c]
    · rw [Bool.not_eq_true] at c
      rw [c]
      rfl
  unfold gd
  rw [e, e, e, e, i, i2]
theorem fwL_v {v v' : Nat → Int} : ∀ (l : List B4), (∀ w ∈ l, ∀ k, bk w k = true → v k = v' k) → ∀ R a, fwL v l R a = fwL v' l R a
  | [], _, _, _ => rfl
  | w :: ws, h, R, a => by
    show fwL v ws (Rd R (gd v w ws R)) (10 * a + (gd v w ws R : Int)) = fwL v' ws (Rd R (gd v' w ws R)) (10 * a + (gd v' w ws R : Int))
    rw [gd_v h]
    exact fwL_v ws (fun w' hw' => h w' (List.mem_cons_of_mem _ hw')) _ _
theorem nx_R {s : Int} (hs : 0 ≤ s ∧ s ≤ 15) {v : Nat → Int} {w : B4} {ws : List B4} : ind (nxS s (gd v w ws (ind s))) = Rd (ind s) (gd v w ws (ind s)) := by
  rcases gd_c v w ws (ind s) with ⟨h, -⟩ | ⟨k, h, h2, -⟩
  · rw [h]; rfl
  · rw [h]
    have hb := ind_p.mp (gcB_t h2).2.1
    have e : nxS s (k + 1) = iA (s) (iX (iS (1) ((k : Int))) (-1)) := by
      unfold nxS
      rw [if_neg (by omega), show (((k + 1 : Nat) : Int) - 1) = (k : Int) by omega]
    rw [e, ind_d hs hb]
    rfl
theorem fiJ_L (m : Nat → Nat → Int) : ∀ (j p : Nat) (s a : Int), p + j ≤ 5 → (∀ q, p + j ≤ q → q < 5 → FW m q = (false, false, false, false)) → (0 ≤ s ∧ s ≤ 15) → fiJ m j p s a = fwL (vW m) (LsF (FW m) p j) (ind s) a
  | 0, _, _, _, _, _, _ => rfl
  | j + 1, p, s, a, h1, h2, hs => by
    have e := gd_F (vW m) (FW m) h1 h2 (ind s)
    show fiJ m j (p + 1) (nxS s (gd (vW m) (FW m p) (LsF (FW m) (p + 1) (4 - p)) (ind (s)))) (10 * a + (gd (vW m) (FW m p) (LsF (FW m) (p + 1) (4 - p)) (ind (s)) : Int)) = fwL (vW m) (LsF (FW m) (p + 1) j) (Rd (ind s) (gd (vW m) (FW m p) (LsF (FW m) (p + 1) j) (ind s))) (10 * a + (gd (vW m) (FW m p) (LsF (FW m) (p + 1) j) (ind s) : Int))
    rw [e, fiJ_L m j (p + 1) _ _ (by omega) (fun q a b => h2 q (by omega) b) (nxS_15 hs _), nx_R hs]
theorem thC_k {m : Nat → Nat → Int} {N : Nat} (hN : m 3 5 = (N : Int)) (hN4 : N ≤ 4) {k : Nat} (hk : k < 4) : tB (thC m) (k : Int) = (decide (k < N) && !tB (m 9 4) (k : Int)) := by
  unfold thC
  rw [tB_and _ _ hk, tB_and _ _ hk, tB_not _ hk, tB_15 hk, hN, tB_mask hN4 hk, Bool.and_true]
theorem fw_eq {m : Nat → Nat → Int} (hP : PR m) (hR : SR0 m) {N : Nat} (hN : m 3 5 = (N : Int)) {p : Nat} (hp5 : p < 5) (hp : (p : Int) < m 3 6) : mk4 (b4 (thC m)) (FW m p) = wb4 (wb1 m (thM m N)) p := by
  have N4 : N ≤ 4 := by have := hP.2.1.1; omega
  have hx : 0 ≤ (p : Int) ∧ (p : Int) < m 3 6 := ⟨by omega, hp⟩
  refine B4_ext (fun k hk => ?_)
  show bk (isc (FW m p) (b4 (thC m))) k = _
  rw [bk_isc, wb4_k _ _ hk, b4_k _ hk, thC_k hN N4 hk]
  show (bk (b4 (fsC m (p : Int))) k && _) = _
  rw [b4_k _ hk]
  have ez : iA (iR (thM m N) (k : Int)) 1 = 1 ↔ tB (thM m N) (k : Int) = true := ⟨fun z => decide_eq_true z, fun z => of_decide_eq_true z⟩
  have ef : iA (iR (m 60 p) (k : Int)) 1 = 1 ↔ tB (m 60 p) (k : Int) = true := ⟨fun z => decide_eq_true z, fun z => of_decide_eq_true z⟩
  by_cases c : (0 ≤ (p : Int) ∧ (p : Int) < m 3 6) ∧ iA (iR (m 9 5) ((p : Int))) (1) = 1
  · rw [show fsC m (p : Int) = 0 from if_pos c, tB_0 hk, Bool.false_and]
    exact (decide_eq_false (fun z => z.1 (by rw [← hR.g.2.1]; exact c.2))).symm
  · rw [show fsC m (p : Int) = m 60 p from (if_neg c).trans (ft_eq hP hx)]
    have eR : wb1 m (thM m N) p k = (tB (thM m N) (k : Int) && tB (m 60 p) (k : Int)) := by
      unfold wb1
      refine Bool.eq_iff_iff.mpr ?_
      rw [decide_eq_true_iff, Bool.and_eq_true]
      exact ⟨fun z => ⟨ez.mp z.2.1, ef.mp z.2.2⟩, fun z => ⟨fun y => c ⟨hx, by rw [hR.g.2.1]; exact y⟩, ez.mpr z.1, ef.mpr z.2⟩⟩
    rw [eR, thM_k N4 hk, ← hR.g.1]
    cases tB (m 60 p) (k : Int) <;> cases decide (k < N) <;> cases tB (m 9 4) (k : Int) <;> rfl
theorem fw_no {m : Nat → Nat → Int} {p : Nat} (hp : ¬ (p : Int) < m 3 6) : FW m p = (false, false, false, false) := by
  show b4 (fsC m (p : Int)) = _
  have : fsC m (p : Int) = 0 := by
    unfold fsC ft
    split
    · rfl
    · rw [if_neg (fun z => hp z.2)]
  rw [this]
  exact b4_0
theorem LsF_map (W W' : Nat → B4) (f : B4 → B4) : ∀ (j p : Nat), (∀ q, p ≤ q → q < p + j → f (W q) = W' q) → (LsF W p j).map f = LsF W' p j
  | 0, _, _ => rfl
  | j + 1, p, h => by
    show f (W p) :: (LsF W (p + 1) j).map f = W' p :: LsF W' (p + 1) j
    rw [h p (Nat.le_refl _) (by omega), LsF_map W W' f j (p + 1) (fun q h1 h2 => h q (by omega) (by omega))]
theorem fire_eq {m : Nat → Nat → Int} (hP : PR m) (hR : SR0 m) {N P : Nat} (hN : m 3 5 = (N : Int)) (hPP : m 3 6 = (P : Int)) : Bt m 0 (thC m) = hg (vM m) (LsF (wb4 (wb1 m (thM m N))) 0 P) rf1 ∧ fiJ m P 0 (thC m) 0 = fwL (vM m) (LsF (wb4 (wb1 m (thM m N))) 0 P) rf1 0 := by
  have N4 : N ≤ 4 := by have := hP.2.1.1; omega
  have P5 : P ≤ 5 := by have := hP.2.1.2; omega
  have no : ∀ q, 0 + P ≤ q → q < 5 → FW m q = (false, false, false, false) := fun q h1 _ => fw_no (by omega)
  have el : (LsF (FW m) 0 P).map (mk4 (b4 (thC m))) = LsF (wb4 (wb1 m (thM m N))) 0 P := LsF_map _ _ _ P 0 (fun q _ h2 => fw_eq hP hR hN (by omega) (by omega))
  have hT : ∀ k, ¬ bk (b4 (thC m)) k = true → ind (thC m) k ≤ 0 := fun k hk => by
    rw [Bool.not_eq_true] at hk
    unfold ind
    rw [hk]
    decide
  have hS : ∀ w ∈ LsF (wb4 (wb1 m (thM m N))) 0 P, ∀ k, bk w k = true → bk (b4 (thC m)) k = true ∧ k < N := fun w hw k hk => by
    obtain ⟨q, -, -, rfl⟩ := LsF_in _ _ _ _ hw
    have k4 := bk_lt hk
    rw [wb4_k _ q k4] at hk
    have h1 : tB (thM m N) (k : Int) = true := decide_eq_true (of_decide_eq_true hk).2.1
    refine ⟨?_, thM_s N4 k k4 h1⟩
    rw [b4_k _ k4, thC_k hN N4 k4]
    rw [thM_k N4 k4, ← hR.g.1] at h1
    exact h1
  have er : ∀ k, (bk (b4 (thC m)) k = true ∧ k < N) → ind (thC m) k = rf1 k := fun k hk => by
    unfold ind
    rw [hk.1]
    rfl
  have ev : ∀ w ∈ LsF (wb4 (wb1 m (thM m N))) 0 P, ∀ k, bk w k = true → vW m k = vM m k := fun w hw k hk => by
    have k1 := (hS w hw k hk).2
    have : wo m (k : Int) = m 5 k := if_pos ⟨by omega, by omega⟩
    show wo m (k : Int) = m 57 k
    rw [this]
    exact (hP.2.2.1 k (by omega) (by omega)).2
  constructor
  · show hg (vW m) (LsF (FW m) 0 (5 - 0)) (ind (thC m)) = _
    rw [hg_F (vW m) (FW m) (p := 0) (j := P) (by omega) no, ← hg_mask (vW m) (b4 (thC m)) _ _ hT, el, hg_v _ ev]
    exact hg_congr (S := fun k => bk (b4 (thC m)) k = true ∧ k < N) _ _ hS er
  · rw [fiJ_L m P 0 _ _ (by omega) no (thC_15 m), ← fwL_mask (vW m) (b4 (thC m)) _ _ _ hT, el, fwL_v _ ev]
    exact fwL_congr (S := fun k => bk (b4 (thC m)) k = true ∧ k < N) _ _ _ hS er
theorem fsC_c {m m' : Nat → Nat → Int} (e : nmE m m') {p : Nat} (hp : p < 5) : fsC m' (p : Int) = fsC m (p : Int) := by
  unfold fsC ft
  rw [e.1.1, e.1.2.1, e.1.2.2.2, Int.toNat_natCast, (e.2.1 p hp).2.2]
theorem FW_c {m m' : Nat → Nat → Int} (e : nmE m m') {p : Nat} (hp : p < 5) : FW m' p = FW m p := by
  show b4 (fsC m' (p : Int)) = b4 (fsC m (p : Int))
  rw [fsC_c e hp]
theorem vW_c {m m' : Nat → Nat → Int} (e : nmE m m') (e5 : ∀ k, k < 4 → m' 5 k = m 5 k) (hn : m 3 5 ≤ 4) : vW m' = vW m := by
  funext k
  show wo m' (k : Int) = wo m (k : Int)
  unfold wo
  rw [e.1.2.1, Int.toNat_natCast]
  by_cases c : 0 ≤ (k : Int) ∧ (k : Int) < m 3 5
  · rw [if_pos c, if_pos c, e5 k (by omega)]
  · rw [if_neg c, if_neg c]
theorem thC_c {m m' : Nat → Nat → Int} (e : nmE m m') : thC m' = thC m := by
  unfold thC
  rw [e.1.2.1, e.1.2.2.1]
theorem fire_c {m m' : Nat → Nat → Int} (e : nmE m m') (e5 : ∀ k, k < 4 → m' 5 k = m 5 k) (hn : 0 ≤ m 3 5 ∧ m 3 5 ≤ 4) {P : Nat} (hP5 : P ≤ 5) (no : ∀ q, 0 + P ≤ q → q < 5 → FW m q = (false, false, false, false)) : Bt m' 0 (thC m') = Bt m 0 (thC m) ∧ fiJ m' P 0 (thC m') 0 = fiJ m P 0 (thC m) 0 := by
  have no' : ∀ q, 0 + P ≤ q → q < 5 → FW m' q = (false, false, false, false) := fun q h1 h2 => (FW_c e h2).trans (no q h1 h2)
  refine ⟨?_, ?_⟩
  · unfold Bt
    rw [thC_c e, vW_c e e5 hn.2, LsF_congr (W := FW m') (W' := FW m) (5 - 0) 0 (fun q _ h2 => FW_c e (by omega))]
  · rw [fiJ_L m' P 0 _ _ (by omega) no' (thC_15 m'), fiJ_L m P 0 _ _ (by omega) no (thC_15 m), thC_c e, vW_c e e5 hn.2, LsF_congr (W := FW m') (W' := FW m) P 0 (fun q _ h2 => FW_c e (by omega))]
def PZ (m : Nat → Nat → Int) : Prop := PW m ∧ ∀ i : Nat, i < 16 → m 51 i = 0
def PZ_FP : yMd := [(3, 5, 6), (4, 0, 3), (5, 0, 3), (6, 0, 4), (7, 0, 4), (8, 0, 4), (51, 0, 15)]
theorem PZ_keep {m m' : Nat → Nat → Int} (h : g_agree PZ_FP m m') (hZ : PZ m) : PZ m' := ⟨PW_keep (fun e he => h e (by
  have : ∀ e ∈ PW_FP, e ∈ PZ_FP := by decide
  exact this e he)) hZ.1, fun i hi => (h.at 6 rfl i (Nat.zero_le _) (by show i ≤ 15; omega)).trans (hZ.2 i hi)⟩
theorem PZ_hall {hc hc1 hc2 : ev_H} (un1 : y_un yct38_0.2.2 hc hc1) (un2 : y_un yct39_0.2.2 hc1 hc2) (hZ : PZ (gi hc)) (h : (gi hc1 = gi hc ∧ y_un yct27_0.2.2 hc1 hc2) ∨ ∃ ns ps hcC hcM, pV ns ps ∧ cP (gi hcC) ns ps ∧ y_un yct31_0.2.2 hc hcC ∧ gi hc1 = hallC (gi hcC) ∧ pOK (gi hcM) ns ps ∧ y_un yct27_0.2.2 hc1 hcM ∧ gi hc2 = hallM (gi hcM)) : PZ (gi hc2) := ⟨PW_hall un1 un2 hZ.1 h, fun i hi => by
  have k1 := g_dis_ok (FP := [(51, 0, 15)]) (by decide) un1
  have k2 := g_dis_ok (FP := [(51, 0, 15)]) (by decide) un2
  exact ((k1.tr k2).at 0 rfl i (Nat.zero_le _) (by show i ≤ 15; omega)).trans (hZ.2 i hi)⟩
theorem wo_9 {m : Nat → Nat → Int} (hW : PW m) (hn : m 3 5 ≤ 4) : ∀ k : Nat, 0 ≤ wo m (k : Int) ∧ wo m (k : Int) ≤ 9 := fun k => by
  unfold wo
  split
  · rename_i c
    rw [Int.toNat_natCast]
    have := (hW.1 k (by omega) c.2).2
    omega
  · decide
theorem SI_fire0 {hc : ev_H} (hin : y_in yG hc) (hS : SI (gi hc)) (hZ : PZ (gi hc)) : ∃ rr hc1 fs1 hc2, (-2147483648 ≤ rr ∧ rr ≤ 2147483647) ∧ f_M 133 [.ref 0, fi (0)] hc (some (fi rr)) hc1 ∧ hc1[55]? = some (.inr (.inr (10, fs1))) ∧ f_M 134 [.ref 55, fi (0)] hc1 (some (fi rr)) hc2 ∧ y_in yG hc2 ∧ SI (gi hc2) ∧ y_un yct133_0.2.2 hc hc1 ∧ y_un yct134_0.2.2 hc1 hc2 := by
  have hn := hS.1.2.1.1
  have hp := hS.1.2.1.2
  have fN : ∀ m1, SI m1 → ∃ N P : Nat, m1 3 5 = (N : Int) ∧ m1 3 6 = (P : Int) ∧ N ≤ 4 ∧ P ≤ 5 := fun m1 h1 => ⟨(m1 3 5).toNat, (m1 3 6).toNat, by have := h1.1.2.1.1; omega, by have := h1.1.2.1.2; omega, by have := h1.1.2.1.1; omega, by have := h1.1.2.1.2; omega⟩
  have ga : ∀ q : Nat, y_args [(2, Int.ofNat q, Int.ofNat q, false), (0, Int.ofNat 0, Int.ofNat 1, false)] [.ref q, fi (0)] := fun q => f_args_c f_rAr (f_args_c (f_rA (by decide) (by decide) (by decide) (by decide)) f_args_n)
  refine SI_call3 (RC := ev_r133) (RM := ev_r134) rfl rfl yc133_0 yc134_0 (ga 0) (ga 55) hin hS (t133_0 hn hp (wo_9 hZ.1 hn.2) hZ.2) (by decide) (by decide) (fun m1 k1 hS1 r1 => ?_)
  obtain ⟨N, P, eN, eP, N4, P5⟩ := fN m1 hS1
  have e := nmE_of k1
  have e5 : ∀ k, k < 4 → m1 5 k = gi hc 5 k := fun k hk => k1.at 2 rfl k (Nat.zero_le _) (by show k ≤ 3; omega)
  have hv : ∀ k, k < N → 0 ≤ vM m1 k ∧ vM m1 k ≤ 9 := fun k hk => by
    have q := (hS1.1.2.2.1 k (by omega) (by omega)).2
    show 0 ≤ m1 57 k ∧ m1 57 k ≤ 9
    rw [← q, e5 k (by omega)]
    have := (hZ.1.1 k (by omega) (by rw [← e.1.2.1]; omega)).2
    omega
  have wN : ∀ p, p < P → ∀ k, wb1 m1 (thM m1 N) p k = true → k < 4 → k < N := fun p _ k hk k4 => thM_s N4 k k4 (decide_eq_true (of_decide_eq_true hk).2.1)
  have q := mlq_is (N := N) (P := P) (wb := wb1 m1 (thM m1 N)) (Rf := rf1) (v := vM m1) N4 hv wN 0 (m1 66)
  have wL : ∀ w ∈ LsF (wb4 (wb1 m1 (thM m1 N))) 0 P, ∀ k, bk w k = true → k + 1 < N + 1 := fun w hw k hk => by
    obtain ⟨q, -, q2, rfl⟩ := LsF_in _ _ _ _ hw
    have k4 := bk_lt hk
    rw [wb4_k _ q k4] at hk
    have := wN q (by omega) k hk k4
    omega
  have g1 := (gn_spec (vM m1) (N + 1) (by omega) (LsF (wb4 (wb1 m1 (thM m1 N))) 0 P) rf1 wL).1
  rw [LsF_len] at g1
  have g2 := pw_r (c := N + 1) (e := P) (by omega) (by omega) P5
  have t := t134_0 (m := m1) (by rw [← hS1.1.1.1]; exact eN) (by rw [← hS1.1.1.2]; exact eP) N4 P5 r1 hv q.1 q.2 (by omega)
  have fe := fire_eq hS1.1 hS1.2.1 eN eP
  have no : ∀ q, 0 + P ≤ q → q < 5 → FW (gi hc) q = (false, false, false, false) := fun q h1 _ => fw_no (by rw [← e.1.1]; omega)
  have fc := fire_c e e5 hn P5 no
  rw [← fe.1, fc.1] at t
  exact t
theorem SI_fire1 {hc : ev_H} (hin : y_in yG hc) (hS : SI (gi hc)) (hZ : PZ (gi hc)) : ∃ rr hc1 fs1 hc2, (-2147483648 ≤ rr ∧ rr ≤ 2147483647) ∧ f_M 133 [.ref 0, fi (1)] hc (some (fi rr)) hc1 ∧ hc1[55]? = some (.inr (.inr (10, fs1))) ∧ f_M 134 [.ref 55, fi (1)] hc1 (some (fi rr)) hc2 ∧ y_in yG hc2 ∧ SI (gi hc2) ∧ y_un yct133_0.2.2 hc hc1 ∧ y_un yct134_0.2.2 hc1 hc2 := by
  have hn := hS.1.2.1.1
  have hp := hS.1.2.1.2
  have fN : ∀ m1, SI m1 → ∃ N P : Nat, m1 3 5 = (N : Int) ∧ m1 3 6 = (P : Int) ∧ N ≤ 4 ∧ P ≤ 5 := fun m1 h1 => ⟨(m1 3 5).toNat, (m1 3 6).toNat, by have := h1.1.2.1.1; omega, by have := h1.1.2.1.2; omega, by have := h1.1.2.1.1; omega, by have := h1.1.2.1.2; omega⟩
  have ga : ∀ q : Nat, y_args [(2, Int.ofNat q, Int.ofNat q, false), (0, Int.ofNat 0, Int.ofNat 1, false)] [.ref q, fi (1)] := fun q => f_args_c f_rAr (f_args_c (f_rA (by decide) (by decide) (by decide) (by decide)) f_args_n)
  refine SI_call3 (RC := ev_r133) (RM := ev_r134) rfl rfl yc133_0 yc134_0 (ga 0) (ga 55) hin hS (t133_1 hn hp (wo_9 hZ.1 hn.2) hZ.2) (by decide) (by decide) (fun m1 k1 hS1 r1 => ?_)
  obtain ⟨N, P, eN, eP, N4, P5⟩ := fN m1 hS1
  have e := nmE_of k1
  have e5 : ∀ k, k < 4 → m1 5 k = gi hc 5 k := fun k hk => k1.at 2 rfl k (Nat.zero_le _) (by show k ≤ 3; omega)
  have hv : ∀ k, k < N → 0 ≤ vM m1 k ∧ vM m1 k ≤ 9 := fun k hk => by
    have q := (hS1.1.2.2.1 k (by omega) (by omega)).2
    show 0 ≤ m1 57 k ∧ m1 57 k ≤ 9
    rw [← q, e5 k (by omega)]
    have := (hZ.1.1 k (by omega) (by rw [← e.1.2.1]; omega)).2
    omega
  have wN : ∀ p, p < P → ∀ k, wb1 m1 (thM m1 N) p k = true → k < 4 → k < N := fun p _ k hk k4 => thM_s N4 k k4 (decide_eq_true (of_decide_eq_true hk).2.1)
  have q := mlq_is (N := N) (P := P) (wb := wb1 m1 (thM m1 N)) (Rf := rf1) (v := vM m1) N4 hv wN 0 (m1 66)
  have wL : ∀ w ∈ LsF (wb4 (wb1 m1 (thM m1 N))) 0 P, ∀ k, bk w k = true → k + 1 < N + 1 := fun w hw k hk => by
    obtain ⟨q, -, q2, rfl⟩ := LsF_in _ _ _ _ hw
    have k4 := bk_lt hk
    rw [wb4_k _ q k4] at hk
    have := wN q (by omega) k hk k4
    omega
  have g1 := (gn_spec (vM m1) (N + 1) (by omega) (LsF (wb4 (wb1 m1 (thM m1 N))) 0 P) rf1 wL).1
  rw [LsF_len] at g1
  have g2 := pw_r (c := N + 1) (e := P) (by omega) (by omega) P5
  have t := t134_1 (m := m1) (by rw [← hS1.1.1.1]; exact eN) (by rw [← hS1.1.1.2]; exact eP) N4 P5 r1 hv q.1 q.2 (by omega)
  have fe := fire_eq hS1.1 hS1.2.1 eN eP
  have no : ∀ q, 0 + P ≤ q → q < 5 → FW (gi hc) q = (false, false, false, false) := fun q h1 _ => fw_no (by rw [← e.1.1]; omega)
  have fc := fire_c e e5 hn P5 no
  rw [fgJ_L (wb4 (wb1 m1 (thM m1 N))) P 0 0, fg_fw (vM m1) (N + 1) (by omega) _ rf1 _ _ wL (by rw [LsF_len]; exact Nat.mod_eq_of_lt g1), ← fe.2, fc.2] at t
  rw [show (gi hc 3 6).toNat - 0 = P by rw [← e.1.1, eP]; omega]
  exact t
