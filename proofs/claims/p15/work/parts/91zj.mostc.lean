/-! most, waiting, first of both -/
def h_E (a : Nat) (as : List Value) (m : Nat → Nat → Int) (r : Option Value) : Prop := ∀ hc, y_in yGw hc → gi hc = m → ∃ hc', f_M a as hc r hc'
theorem h_E_of {a : Nat} {as : List Value} {m : Nat → Nat → Int} {r : Option Value} {R : ev_R} (hR : ev_ms a = some R) (h : ∀ hc, y_in yGw hc → gi hc = m → x_W none R.1 0 (lv_args 0 as) [] hc 0 0 (fun r' _ => r' = r)) : h_E a as m r := fun hc hw hm => by
  obtain ⟨n, r', h', e, e1⟩ := h hc hw hm
  subst e1
  refine ⟨h', fun R' hR' => ?_⟩
  rw [hR] at hR'
  cases hR'
  exact ⟨n, e⟩
theorem SI_call3 {aC aM : Nat} {ctC ctM : yCt} {RC RM : ev_R} (hRC : ev_ms aC = some RC) (hRM : ev_ms aM = some RM) (hC : y_Mca yG aC ctC) (hM : y_Mca yG aM ctM) {hc : ev_H} {asC asM : List Value} (gC : y_args ctC.1 asC) (gM : y_args ctM.1 asM) (hin : y_in yG hc) (hS : SI (gi hc)) {z : Int} (h1 : h_E aC asC (gi hc) (some (fi z))) (hd1 : g_dis ctC.2.2 SI_FP = true) (hd2 : g_dis ctM.2.2 SI_FP = true) (h2 : ∀ m1, g_agree SI_FP (gi hc) m1 → SI m1 → (∀ q i, -2147483648 ≤ m1 q i ∧ m1 q i ≤ 2147483647) → h_E aM asM m1 (some (fi z))) : ∃ rr hc1 fs1 hc2, (-2147483648 ≤ rr ∧ rr ≤ 2147483647) ∧ f_M aC asC hc (some (fi rr)) hc1 ∧ hc1[55]? = some (.inr (.inr (10, fs1))) ∧ f_M aM asM hc1 (some (fi rr)) hc2 ∧ y_in yG hc2 ∧ SI (gi hc2) ∧ y_un ctC.2.2 hc hc1 ∧ y_un ctM.2.2 hc1 hc2 := by
  obtain ⟨hc1, a1⟩ := h1 hc (y_win hin) rfl
  obtain ⟨i1, u1⟩ := f_Mu hRC hC hin gC a1
  have k1 := g_dis_ok hd1 u1
  obtain ⟨hc2, b1⟩ := h2 (gi hc1) k1 (SI_keep k1 hS) (gi_r hc1) hc1 (y_win i1) rfl
  obtain ⟨i2, u2⟩ := f_Mu hRM hM i1 gM b1
  obtain ⟨fs1, q55⟩ := g_55 i1
  obtain ⟨rr, r0, er⟩ := g_i32 (z := z)
  exact ⟨rr, hc1, fs1, hc2, r0, er ▸ a1, q55, er ▸ b1, i2, SI_keep (k1.tr (g_dis_ok hd2 u2)) hS, u1, u2⟩
def gW (m : Nat → Nat → Int) (h s : Int) : Nat → B4 := fun p => b4 (wnt m h s (p : Int))
def gR (m : Nat → Nat → Int) : Nat → Int := fun k => rm m (k : Int)
def moC (m : Nat → Nat → Int) (h s : Int) : Int := gg (gW m h s) 5 (gR m)
theorem gQ_42 {m : Nat → Nat → Int} {h s : Int} {p : Nat} (hp : p < 5) : gQ m h s 5 4 42 p = wnt m h s (p : Int) := if_pos ⟨rfl, hp⟩
theorem gQ_43 {m : Nat → Nat → Int} {h s : Int} {k : Nat} (hk : k < 4) : gQ m h s 5 4 43 k = rm m (k : Int) := (if_neg (fun z => by cases z.1)).trans (if_pos ⟨rfl, hk⟩)
theorem Wm_gQ {m : Nat → Nat → Int} {h s : Int} {p : Nat} (hp : p < 5) : Wm (gQ m h s 5 4) p = gW m h s p := by
  show b4 (gQ m h s 5 4 42 p) = b4 (wnt m h s (p : Int))
  rw [gQ_42 hp]
theorem hg_R4 {W : Nat → B4} {p j : Nat} {R R' : Nat → Int} (h : ∀ k, k < 4 → R k = R' k) : hg (fun _ => 1) (LsF W p j) R = hg (fun _ => 1) (LsF W p j) R' := hg_congr (S := fun k => k < 4) _ _ (fun _ _ _ hk => bk_lt hk) h
theorem gg_st {m : Nat → Nat → Int} {h s : Int} : gg (Wm (gQ m h s 5 4)) 5 ((gQ m h s 5 4) 43) = moC m h s := by
  unfold moC
  rw [gg_hg, gg_hg, LsW_F _ 5 (by decide), LsW_F _ 5 (by decide), LsF_congr (W := Wm (gQ m h s 5 4)) (W' := gW m h s) 5 (5 - 5) (fun q _ h2 => Wm_gQ (by omega))]
  exact hg_R4 (fun k hk => gQ_43 hk)
theorem st_15 {m : Nat → Nat → Int} (hn : 0 ≤ m 3 5 ∧ m 3 5 ≤ 4) {h s : Int} : W15 (gQ m h s 5 4) := fun p hp => by
  rw [gQ_42 hp]
  exact wnt_15 hn h s _
theorem st_R2 {m : Nat → Nat → Int} {h s : Int} : R2 ((gQ m h s 5 4) 43) := fun k hk => by
  rw [gQ_43 hk]
  have := rm_12 m (k : Int)
  omega
theorem moC_r {m : Nat → Nat → Int} {h s : Int} : 0 ≤ moC m h s ∧ moC m h s ≤ 5 := gg_r (by decide) (fun k _ => by have := rm_12 m (k : Int); show 0 ≤ rm m (k : Int) ∧ rm m (k : Int) ≤ 2; omega)
def wyC (m : Nat → Nat → Int) (h : Int) : Int := fwL (fun _ => 1) (LsF (gW m h 15) 0 (m 3 6).toNat) (gR m) 0
theorem fw_st {m : Nat → Nat → Int} (hp : 0 ≤ m 3 6 ∧ m 3 6 ≤ 5) {h : Int} : (fwC (Wm (gQ m h 15 5 4)) (m 3 6).toNat 0 ((gQ m h 15 5 4) 43) (gg (Wm (gQ m h 15 5 4)) 5 ((gQ m h 15 5 4) 43)) 0).1 = wyC m h := by
  have no : ∀ q, 0 + (m 3 6).toNat ≤ q → q < 5 → Wm (gQ m h 15 5 4) q = (false, false, false, false) := fun q h1 h2 => by
    rw [Wm_gQ h2]
    exact want_no (by omega)
  rw [fwC_L _ _ _ _ _ _ (by omega) no (by rw [← gg_F (Wm (gQ m h 15 5 4)) (p := 0) (j := (m 3 6).toNat) (by omega) no])]
  unfold wyC
  rw [LsF_congr (W := Wm (gQ m h 15 5 4)) (W' := gW m h 15) (m 3 6).toNat 0 (fun q _ h2 => Wm_gQ (by omega))]
  exact fwL_congr (S := fun k => k < 4) _ _ _ (fun _ _ _ hk => bk_lt hk) (fun k hk => gQ_43 hk)
theorem t101h {m : Nat → Nat → Int} {h : Int} (rh : -2147483648 ≤ h ∧ h ≤ 2147483647) : h_M 101 [fi (h)] m (some (fi (bI (decide (0 ≤ h ∧ h < 10))))) m := h_M_of (R := ev_r101) rfl (fun hc hw hm => by
  have hL : f_L (lv_args 0 [fi (h)]) [(0, fi (h))] := f_L_of rfl
  generalize lv_args 0 [fi (h)] = L at hL
  show x_W none (2, 0, 1, 1, 0, 0, 0, 0, 0, ev_t101) 0 L [] hc 0 0 _
  have hR := gi_R hm
  refine f_iln 0 rfl hL rfl ?_
  refine f_if rfl rh (fun c1 => ?_) (fun c1 => ?_)
  · have c1 : (h : Int) < (0 : Int) := c1
    refine f_s [fi (0)] rfl rfl ?_
    exact f_ret2 rfl (Or.inl rfl) ⟨by rw [decide_eq_false (by omega)]; rfl, hw, hm⟩
  · have c1 : ¬ ((h : Int) < (0 : Int)) := c1
    refine f_iln 0 rfl hL rfl ?_
    refine f_bipush (n := 10) rfl (by decide) ?_
    refine f_ic rfl rh (by decide) (fun c2 => ?_) (fun c2 => ?_)
    · have c2 : (10 : Int) ≤ (h : Int) := c2
      refine f_s [fi (0)] rfl rfl ?_
      exact f_ret2 rfl (Or.inl rfl) ⟨by rw [decide_eq_false (by omega)]; rfl, hw, hm⟩
    · have c2 : ¬ ((10 : Int) ≤ (h : Int)) := c2
      refine f_s [fi (1)] rfl rfl ?_
      refine f_goto rfl ?_
      exact f_ret2 rfl (Or.inr rfl) ⟨by rw [decide_eq_true (by omega)]; rfl, hw, hm⟩)
theorem t113_0_out {m : Nat → Nat → Int} {h : Int} (rh : -2147483648 ≤ h ∧ h ≤ 2147483647) (h0 : ¬ (0 ≤ h ∧ h < 10)) : h_E 113 [.ref 0, fi (h), fi (0)] m (some (fi (-2))) := h_E_of (R := ev_r113) rfl (fun hc hw hm => by
  have hL : f_L (lv_args 0 [.ref 0, fi (h), fi (0)]) [(0, .ref 0), (1, fi (h)), (2, fi (0))] := f_L_of rfl
  generalize lv_args 0 [.ref 0, fi (h), fi (0)] = L at hL
  show x_W none (1, 0, 3, 2, 10, 5, 115, 0, 0, ev_t113) 0 L [] hc 0 0 _
  have hR := gi_R hm
  refine f_iln 1 rfl hL rfl ?_
  refine m_k1 (t101h rh) hw hm rfl rfl rfl rfl rfl (fun hc1 hw1 hm1 => ?_)
  refine f_if rfl (bI_r _) (fun c_9 => absurd (show ¬ (bI (decide (0 ≤ h ∧ h < 10)) : Int) = (0 : Int) from c_9) (by rw [decide_eq_false h0]; exact fun z => z rfl)) (fun _ => ?_)
  refine f_bipush (n := -2) rfl (by decide) ?_
  exact f_ret1 rfl (rfl))
theorem t113_0_ok {m : Nat → Nat → Int} (hn : 0 ≤ m 3 5 ∧ m 3 5 ≤ 4) (hp : 0 ≤ m 3 6 ∧ m 3 6 ≤ 5) {h : Int} (rh : -2147483648 ≤ h ∧ h ≤ 2147483647) (hh : 0 ≤ h ∧ h < 10) : h_E 113 [.ref 0, fi (h), fi (0)] m (some (fi (moC m h 15))) := h_E_of (R := ev_r113) rfl (fun hc hw hm => by
  have hL : f_L (lv_args 0 [.ref 0, fi (h), fi (0)]) [(0, .ref 0), (1, fi (h)), (2, fi (0))] := f_L_of rfl
  generalize lv_args 0 [.ref 0, fi (h), fi (0)] = L at hL
  show x_W none (1, 0, 3, 2, 10, 5, 115, 0, 0, ev_t113) 0 L [] hc 0 0 _
  have hR := gi_R hm
  refine f_iln 1 rfl hL rfl ?_
  refine m_k1 (t101h rh) hw hm rfl rfl rfl rfl rfl (fun hc1 hw1 hm1 => ?_)
  refine f_if rfl (bI_r _) (fun _ => ?_) (fun c_9 => absurd (show ¬ (bI (decide (0 ≤ h ∧ h < 10)) : Int) = (0 : Int) from (by rw [decide_eq_true hh]; decide)) c_9)
  refine f_aln 0 rfl hL rfl ?_
  refine m_gfr so0 rfl hw1 rfl (by decide) ?_
  refine f_aln 0 rfl hL rfl ?_
  refine m_gfr so0 rfl hw1 rfl (by decide) ?_
  refine f_iln 1 rfl hL rfl ?_
  refine f_bipush (n := 15) rfl (by decide) ?_
  refine m_k0 (t104 (s := 15) hn hp rh (by decide)) hw1 hm1 rfl rfl rfl (m_ar so41 hw1 rfl) rfl (fun hc2 hw2 hm2 => ?_)
  refine f_iln 2 rfl hL rfl ?_
  refine f_if rfl (by decide) (fun _ => ?_) (fun c_9 => absurd (show (0 : Int) = (0 : Int) from (by decide)) c_9)
  refine f_aln 0 rfl hL rfl ?_
  refine m_gfr so0 rfl hw2 rfl (by decide) ?_
  refine m_k1 (t110 (m := gQ m h 15 5 4) (st_15 hn) st_R2) hw2 hm2 rfl rfl rfl (m_ar so41 hw2 rfl) rfl (fun hc3 hw3 hm3 => ?_)
  exact f_ret1 rfl (by rw [gg_st]))
theorem t113_1_out {m : Nat → Nat → Int} {h : Int} (rh : -2147483648 ≤ h ∧ h ≤ 2147483647) (h0 : ¬ (0 ≤ h ∧ h < 10)) : h_E 113 [.ref 0, fi (h), fi (1)] m (some (fi (-2))) := h_E_of (R := ev_r113) rfl (fun hc hw hm => by
  have hL : f_L (lv_args 0 [.ref 0, fi (h), fi (1)]) [(0, .ref 0), (1, fi (h)), (2, fi (1))] := f_L_of rfl
  generalize lv_args 0 [.ref 0, fi (h), fi (1)] = L at hL
  show x_W none (1, 0, 3, 2, 10, 5, 115, 0, 0, ev_t113) 0 L [] hc 0 0 _
  have hR := gi_R hm
  refine f_iln 1 rfl hL rfl ?_
  refine m_k1 (t101h rh) hw hm rfl rfl rfl rfl rfl (fun hc1 hw1 hm1 => ?_)
  refine f_if rfl (bI_r _) (fun c_9 => absurd (show ¬ (bI (decide (0 ≤ h ∧ h < 10)) : Int) = (0 : Int) from c_9) (by rw [decide_eq_false h0]; exact fun z => z rfl)) (fun _ => ?_)
  refine f_bipush (n := -2) rfl (by decide) ?_
  exact f_ret1 rfl (rfl))
theorem t113_1_ok {m : Nat → Nat → Int} (hn : 0 ≤ m 3 5 ∧ m 3 5 ≤ 4) (hp : 0 ≤ m 3 6 ∧ m 3 6 ≤ 5) {h : Int} (rh : -2147483648 ≤ h ∧ h ≤ 2147483647) (hh : 0 ≤ h ∧ h < 10) : h_E 113 [.ref 0, fi (h), fi (1)] m (some (fi (wyC m h))) := h_E_of (R := ev_r113) rfl (fun hc hw hm => by
  have hL : f_L (lv_args 0 [.ref 0, fi (h), fi (1)]) [(0, .ref 0), (1, fi (h)), (2, fi (1))] := f_L_of rfl
  generalize lv_args 0 [.ref 0, fi (h), fi (1)] = L at hL
  show x_W none (1, 0, 3, 2, 10, 5, 115, 0, 0, ev_t113) 0 L [] hc 0 0 _
  have hR := gi_R hm
  refine f_iln 1 rfl hL rfl ?_
  refine m_k1 (t101h rh) hw hm rfl rfl rfl rfl rfl (fun hc1 hw1 hm1 => ?_)
  refine f_if rfl (bI_r _) (fun _ => ?_) (fun c_9 => absurd (show ¬ (bI (decide (0 ≤ h ∧ h < 10)) : Int) = (0 : Int) from (by rw [decide_eq_true hh]; decide)) c_9)
  refine f_aln 0 rfl hL rfl ?_
  refine m_gfr so0 rfl hw1 rfl (by decide) ?_
  refine f_aln 0 rfl hL rfl ?_
  refine m_gfr so0 rfl hw1 rfl (by decide) ?_
  refine f_iln 1 rfl hL rfl ?_
  refine f_bipush (n := 15) rfl (by decide) ?_
  refine m_k0 (t104 (s := 15) hn hp rh (by decide)) hw1 hm1 rfl rfl rfl (m_ar so41 hw1 rfl) rfl (fun hc2 hw2 hm2 => ?_)
  refine f_iln 2 rfl hL rfl ?_
  refine f_if rfl (by decide) (fun c_9 => absurd (show (1 : Int) = (0 : Int) from c_9) (by decide)) (fun _ => ?_)
  refine f_aln 0 rfl hL rfl ?_
  refine m_gfr so0 rfl hw2 rfl (by decide) ?_
  have tt := t112 (m := gQ m h 15 5 4) (by rw [gQ_ne (by decide) (by decide)]; exact hp) (st_15 hn) st_R2
  rw [gQ_ne (q := 3) (i := 6) (by decide) (by decide)] at tt
  refine m_k1 tt hw2 hm2 rfl rfl rfl (m_ar so41 hw2 rfl) rfl (fun hc3 hw3 hm3 => ?_)
  refine f_goto rfl ?_
  exact f_ret1 rfl (by rw [fw_st hp]))
def lwC (m : Nat → Nat → Int) (h : Int) : Int := bC (ngS m 9 h) - moC m h 15
theorem ngS_r (m : Nat → Nat → Int) (h : Int) : -2147483648 ≤ ngS m 9 h ∧ ngS m 9 h ≤ 2147483647 := by
  rw [ngS_b]
  exact bS_r (bS_r (bS_r (bS_r (bS_r (by decide)))))
theorem ng_q {m : Nat → Nat → Int} {h s h' : Int} {a b : Nat} : ngS (gQ m h s a b) 9 h' = ngS m 9 h' := by
  rw [ngS_b, ngS_b]
  have e : ∀ x : Int, nB (gQ m h s a b) 9 h' x = nB m 9 h' x := fun x => by
    unfold nB
    rw [gQ_ne (q := 3) (i := 6) (by decide) (by decide), gQ_ne (q := 9) (i := 5) (by decide) (by decide), gQ_ne (q := 6) (by decide) (by decide), gQ_ne (q := 7) (by decide) (by decide)]
  rw [e, e, e, e, e]
theorem t121 {m : Nat → Nat → Int} (hn : 0 ≤ m 3 5 ∧ m 3 5 ≤ 4) (hp : 0 ≤ m 3 6 ∧ m 3 6 ≤ 5) {h : Int} (rh : -2147483648 ≤ h ∧ h ≤ 2147483647) : h_M 121 [.ref 0, fi (h)] m (some (fi (lwC m h))) (gQ m h 15 5 4) := h_M_of (R := ev_r121) rfl (fun hc hw hm => by
  have hL : f_L (lv_args 0 [.ref 0, fi (h)]) [(0, .ref 0), (1, fi (h))] := f_L_of rfl
  generalize lv_args 0 [.ref 0, fi (h)] = L at hL
  show x_W none (1, 0, 2, 1, 10, 4, 90, 0, 0, ev_t121) 0 L [] hc 0 0 _
  have hR := gi_R hm
  refine f_aln 0 rfl hL rfl ?_
  refine m_gfr so0 rfl hw rfl (by decide) ?_
  refine f_aln 0 rfl hL rfl ?_
  refine m_gfr so0 rfl hw rfl (by decide) ?_
  refine f_iln 1 rfl hL rfl ?_
  refine f_bipush (n := 15) rfl (by decide) ?_
  refine m_k0 (t104 (s := 15) hn hp rh (by decide)) hw hm rfl rfl rfl (m_ar so41 hw rfl) rfl (fun hc1 hw1 hm1 => ?_)
  refine f_aln 0 rfl hL rfl ?_
  refine m_gfr so0 rfl hw1 rfl (by decide) ?_
  refine f_iln 1 rfl hL rfl ?_
  have tt := t86_9 (m := gQ m h 15 5 4) (by rw [gQ_ne (by decide) (by decide)]; exact hp) rh
  rw [ng_q] at tt
  refine m_k1 tt hw1 hm1 rfl rfl rfl (m_ar so9 hw1 rfl) rfl (fun hc2 hw2 hm2 => ?_)
  refine m_k1 (t65 (ngS_r m h)) hw2 hm2 rfl rfl rfl rfl rfl (fun hc3 hw3 hm3 => ?_)
  refine f_aln 0 rfl hL rfl ?_
  refine m_gfr so0 rfl hw3 rfl (by decide) ?_
  refine m_k1 (t110 (m := gQ m h 15 5 4) (st_15 hn) st_R2) hw3 hm3 rfl rfl rfl (m_ar so41 hw3 rfl) rfl (fun hc4 hw4 hm4 => ?_)
  refine f_isub rfl ?_
  exact f_ret1 rfl ⟨by rw [gg_st]; rfl, hw4, hm4⟩)
def ag42 (m m' : Nat → Nat → Int) : Prop := ∀ q i, q ≠ 42 → q ≠ 43 → m' q i = m q i
theorem ag42.g {m m' : Nat → Nat → Int} (e : ag42 m m') {h s : Int} : ag42 m (gQ m' h s 5 4) := fun q i h1 h2 => (gQ_ne h1 h2).trans (e q i h1 h2)
theorem wnt_c {m m' : Nat → Nat → Int} (e36 : m' 3 6 = m 3 6) (e35 : m' 3 5 = m 3 5) (e94 : m' 9 4 = m 9 4) (e95 : m' 9 5 = m 9 5) {x : Int} (e6 : m' 6 x.toNat = m 6 x.toNat) (e7 : m' 7 x.toNat = m 7 x.toNat) (e8 : m' 8 x.toNat = m 8 x.toNat) {h s : Int} : wnt m' h s x = wnt m h s x := by
  unfold wnt fsC ft
  rw [e36, e35, e94, e95, e6, e7, e8]
theorem rm_c {m m' : Nat → Nat → Int} (e35 : m' 3 5 = m 3 5) {x : Int} (e4 : m' 4 x.toNat = m 4 x.toNat) : rm m' x = rm m x := by
  unfold rm kd
  rw [e35, e4]
theorem nB_c {m m' : Nat → Nat → Int} (e36 : m' 3 6 = m 3 6) (e95 : m' 9 5 = m 9 5) {x : Int} (e6 : m' 6 x.toNat = m 6 x.toNat) (e7 : m' 7 x.toNat = m 7 x.toNat) {h : Int} : nB m' 9 h x = nB m 9 h x := by
  unfold nB
  rw [e36, e95, e6, e7]
/-- the cells that the numbers of the class rest on -/
def nmE (m m' : Nat → Nat → Int) : Prop := (m' 3 6 = m 3 6 ∧ m' 3 5 = m 3 5 ∧ m' 9 4 = m 9 4 ∧ m' 9 5 = m 9 5) ∧ (∀ p, p < 5 → m' 6 p = m 6 p ∧ m' 7 p = m 7 p ∧ m' 8 p = m 8 p) ∧ (∀ k, k < 4 → m' 4 k = m 4 k)
theorem ag42.n {m m' : Nat → Nat → Int} (e : ag42 m m') : nmE m m' := ⟨⟨e 3 6 (by decide) (by decide), e 3 5 (by decide) (by decide), e 9 4 (by decide) (by decide), e 9 5 (by decide) (by decide)⟩, fun p _ => ⟨e 6 p (by decide) (by decide), e 7 p (by decide) (by decide), e 8 p (by decide) (by decide)⟩, fun k _ => e 4 k (by decide) (by decide)⟩
theorem nmE_of {m m' : Nat → Nat → Int} (h : g_agree SI_FP m m') : nmE m m' := ⟨⟨h.at 0 rfl 6 (by decide) (by decide), h.at 0 rfl 5 (by decide) (by decide), h.at 6 rfl 4 (by decide) (by decide), h.at 6 rfl 5 (by decide) (by decide)⟩, fun p hp => ⟨h.at 3 rfl p (Nat.zero_le _) (by show p ≤ 4; omega), h.at 4 rfl p (Nat.zero_le _) (by show p ≤ 4; omega), h.at 5 rfl p (Nat.zero_le _) (by show p ≤ 4; omega)⟩, fun k hk => h.at 1 rfl k (Nat.zero_le _) (by show k ≤ 3; omega)⟩
theorem gW_c {m m' : Nat → Nat → Int} (e : nmE m m') {h s : Int} {p : Nat} (hp : p < 5) : gW m' h s p = gW m h s p := by
  have q := e.2.1 p hp
  show b4 (wnt m' h s (p : Int)) = b4 (wnt m h s (p : Int))
  rw [wnt_c e.1.1 e.1.2.1 e.1.2.2.1 e.1.2.2.2 (x := (p : Int)) q.1 q.2.1 q.2.2]
theorem gR_c {m m' : Nat → Nat → Int} (e : nmE m m') {k : Nat} (hk : k < 4) : gR m' k = gR m k := rm_c e.1.2.1 (e.2.2 k hk)
theorem moC_c {m m' : Nat → Nat → Int} (e : nmE m m') {h s : Int} : moC m' h s = moC m h s := by
  unfold moC
  rw [gg_hg, gg_hg, LsW_F _ 5 (by decide), LsW_F _ 5 (by decide), LsF_congr (W := gW m' h s) (W' := gW m h s) 5 (5 - 5) (fun q _ h2 => gW_c e (by omega))]
  exact hg_R4 (fun k hk => gR_c e hk)
theorem wyC_c {m m' : Nat → Nat → Int} (e : nmE m m') (hp : 0 ≤ m 3 6 ∧ m 3 6 ≤ 5) {h : Int} : wyC m' h = wyC m h := by
  unfold wyC
  rw [e.1.1, LsF_congr (W := gW m' h 15) (W' := gW m h 15) (m 3 6).toNat 0 (fun q _ h2 => gW_c e (by omega))]
  exact fwL_congr (S := fun k => k < 4) _ _ _ (fun _ _ _ hk => bk_lt hk) (fun k hk => gR_c e hk)
theorem lwC_c {m m' : Nat → Nat → Int} (e : nmE m m') {h : Int} : lwC m' h = lwC m h := by
  have f : ∀ p : Nat, p < 5 → nB m' 9 h (p : Int) = nB m 9 h (p : Int) := fun p hp => nB_c e.1.1 e.1.2.2.2 (x := (p : Int)) (e.2.1 p hp).1 (e.2.1 p hp).2.1
  unfold lwC
  rw [moC_c e, ngS_b, ngS_b, show nB m' 9 h 0 = nB m 9 h 0 from f 0 (by decide), show nB m' 9 h 1 = nB m 9 h 1 from f 1 (by decide), show nB m' 9 h 2 = nB m 9 h 2 from f 2 (by decide), show nB m' 9 h 3 = nB m 9 h 3 from f 3 (by decide), show nB m' 9 h 4 = nB m 9 h 4 from f 4 (by decide)]
theorem t121_x {m m' : Nat → Nat → Int} (e : ag42 m m') (hn : 0 ≤ m 3 5 ∧ m 3 5 ≤ 4) (hp : 0 ≤ m 3 6 ∧ m 3 6 ≤ 5) {h : Int} (rh : -2147483648 ≤ h ∧ h ≤ 2147483647) : ∃ m2, ag42 m m2 ∧ h_M 121 [.ref 0, fi (h)] m' (some (fi (lwC m h))) m2 := by
  refine ⟨gQ m' h 15 5 4, e.g, ?_⟩
  have := t121 (m := m') (by rw [e.n.1.2.1]; exact hn) (by rw [e.n.1.1]; exact hp) rh
  rw [lwC_c e.n] at this
  exact this
def wtJ (f : Int → Int) : Nat → Int → Int
  | 0, _ => 0
  | n + 1, h => f h + wtJ f n (h + 1)
def fsJ (f : Int → Int) : Nat → Int → Int
  | 0, _ => -9
  | n + 1, h => if 0 < f h then h else fsJ f n (h + 1)
theorem wtJ_c {f f' : Int → Int} (h : ∀ x, 0 ≤ x → x < 10 → f x = f' x) : ∀ (n : Nat) (x : Int), 0 ≤ x → x + n ≤ 10 → wtJ f n x = wtJ f' n x
  | 0, _, _, _ => rfl
  | n + 1, x, h1, h2 => by
    show f x + wtJ f n (x + 1) = f' x + wtJ f' n (x + 1)
    rw [h x h1 (by omega), wtJ_c h n (x + 1) (by omega) (by omega)]
theorem fsJ_c {f f' : Int → Int} (h : ∀ x, 0 ≤ x → x < 10 → f x = f' x) : ∀ (n : Nat) (x : Int), 0 ≤ x → x + n ≤ 10 → fsJ f n x = fsJ f' n x
  | 0, _, _, _ => rfl
  | n + 1, x, h1, h2 => by
    show (if 0 < f x then x else fsJ f n (x + 1)) = (if 0 < f' x then x else fsJ f' n (x + 1))
    rw [h x h1 (by omega), fsJ_c h n (x + 1) (by omega) (by omega)]
theorem t122_out {m : Nat → Nat → Int} {a b : Int} (ra : -2147483648 ≤ a ∧ a ≤ 2147483647) (rb : -2147483648 ≤ b ∧ b ≤ 2147483647) (h0 : ¬ ((0 ≤ a ∧ a < 10) ∧ (0 ≤ b ∧ b < 10) ∧ a ≤ b)) : h_E 122 [.ref 0, fi (a), fi (b)] m (some (fi (-2))) := h_E_of (R := ev_r122) rfl (fun hc hw hm => by
  have hL : f_L (lv_args 0 [.ref 0, fi (a), fi (b)]) [(0, .ref 0), (1, fi (a)), (2, fi (b))] := f_L_of rfl
  generalize lv_args 0 [.ref 0, fi (a), fi (b)] = L at hL
  show x_W none (1, 0, 5, 2, 10, 5, 111, 0, 0, ev_t122) 0 L [] hc 0 0 _
  have hR := gi_R hm
  refine f_iln 1 rfl hL rfl ?_
  refine m_k1 (t101h (h := a) ra) hw hm rfl rfl rfl rfl rfl (fun hc1 hw1 hm1 => ?_)
  refine f_if rfl (bI_r _) (fun c1 => ?_) (fun c1 => ?_)
  · have c1 : (bI (decide (0 ≤ a ∧ a < 10)) : Int) = (0 : Int) := c1
    have c1 : ¬ (0 ≤ a ∧ a < 10) := bI_f c1
    refine f_bipush (n := -2) rfl (by decide) ?_
    exact f_ret1 rfl (rfl)
  · have c1 : ¬ ((bI (decide (0 ≤ a ∧ a < 10)) : Int) = (0 : Int)) := c1
    have c1 : 0 ≤ a ∧ a < 10 := bI_t c1
    refine f_iln 2 rfl hL rfl ?_
    refine m_k1 (t101h (h := b) rb) hw1 hm1 rfl rfl rfl rfl rfl (fun hc2 hw2 hm2 => ?_)
    refine f_if rfl (bI_r _) (fun c2 => ?_) (fun c2 => ?_)
    · have c2 : (bI (decide (0 ≤ b ∧ b < 10)) : Int) = (0 : Int) := c2
      have c2 : ¬ (0 ≤ b ∧ b < 10) := bI_f c2
      refine f_bipush (n := -2) rfl (by decide) ?_
      exact f_ret1 rfl (rfl)
    · have c2 : ¬ ((bI (decide (0 ≤ b ∧ b < 10)) : Int) = (0 : Int)) := c2
      have c2 : 0 ≤ b ∧ b < 10 := bI_t c2
      refine f_iln 2 rfl hL rfl ?_
      refine f_iln 1 rfl hL rfl ?_
      refine f_ic rfl rb ra (fun c => absurd ⟨c1, c2, c⟩ h0) (fun c3 => ?_)
      have c3 : ¬ ((a : Int) ≤ (b : Int)) := c3
      refine f_bipush (n := -2) rfl (by decide) ?_
      exact f_ret1 rfl (rfl))
theorem t122_ok {m : Nat → Nat → Int} (hn : 0 ≤ m 3 5 ∧ m 3 5 ≤ 4) (hp : 0 ≤ m 3 6 ∧ m 3 6 ≤ 5) {a b : Int} (ra : -2147483648 ≤ a ∧ a ≤ 2147483647) (rb : -2147483648 ≤ b ∧ b ≤ 2147483647) (h0 : (0 ≤ a ∧ a < 10) ∧ (0 ≤ b ∧ b < 10) ∧ a ≤ b) : h_E 122 [.ref 0, fi (a), fi (b)] m (some (fi (wtJ (lwC m) (b + 1 - a).toNat a))) := h_E_of (R := ev_r122) rfl (fun hc hw hm => by
  have hL : f_L (lv_args 0 [.ref 0, fi (a), fi (b)]) [(0, .ref 0), (1, fi (a)), (2, fi (b))] := f_L_of rfl
  generalize lv_args 0 [.ref 0, fi (a), fi (b)] = L at hL
  show x_W none (1, 0, 5, 2, 10, 5, 111, 0, 0, ev_t122) 0 L [] hc 0 0 _
  have hR := gi_R hm
  have hK : ∀ (n : Nat) (hc : ev_H) (m' : Nat → Nat → Int) (x s : Int) (L : ev_L), y_in yGw hc → gi hc = m' → ag42 m m' → (0 ≤ x ∧ x + n = b + 1) → f_L L [(4, fi (x)), (3, fi (s)), (0, .ref 0), (1, fi (a)), (2, fi (b))] → x_W none (1, 0, 5, 2, 10, 5, 111, 0, 0, ev_t122) 27 L [] hc 0 0 (fun r' _ => r' = some (fi (s + wtJ (lwC m) n x))) := by
    intro n
    induction n with
    | zero =>
      intro hc m' x s L hw hm ha hx hL
      refine f_il 0 rfl hL rfl ?_
      refine f_iln 4 rfl hL rfl ?_
      refine f_ic rfl (by omega) (by omega) (fun _ => ?_) (fun c_9 => absurd (show (b : Int) < (x : Int) from (by omega)) c_9)
      refine f_iln 1 rfl hL rfl ?_
      exact f_ret1 rfl (by rw [show wtJ (lwC m) 0 x = 0 from rfl, Int.add_zero])
    | succ n ih =>
      intro hc m' x s L hw hm ha hx hL
      refine f_il 0 rfl hL rfl ?_
      refine f_iln 4 rfl hL rfl ?_
      refine f_ic rfl (by omega) (by omega) (fun c_9 => absurd (show (b : Int) < (x : Int) from c_9) (by omega)) (fun _ => ?_)
      refine f_iln 1 rfl hL rfl ?_
      refine f_aln 2 rfl hL rfl ?_
      refine f_il 0 rfl hL rfl ?_
      obtain ⟨m9, q9, t9⟩ := (t121_x ha hn hp (h := x) (by omega))
      refine m_k1 t9 hw hm rfl rfl rfl (m_ar so0 hw rfl) rfl (fun hc1 hw1 hm1 => ?_)
      refine f_iadd rfl ?_
      refine f_istn [(3, fi (s + (lwC m x))), (4, fi (x)), (0, .ref 0), (1, fi (a)), (2, fi (b))] rfl (by decide) hL rfl (fun L1 hL1 => ?_)
      refine f_inc 1 [(4, fi (x + 1)), (3, fi (s + (lwC m x))), (0, .ref 0), (1, fi (a)), (2, fi (b))] rfl (by decide) hL1 rfl rfl (fun L2 hL2 => ?_)
      refine f_goto rfl ?_
      rw [show s + wtJ (lwC m) (n + 1) x = (s + lwC m x) + wtJ (lwC m) n (x + 1) by show s + (lwC m x + wtJ (lwC m) n (x + 1)) = _; omega]
      exact ih hc1 m9 _ _ _ hw1 hm1 q9 (by omega) (hL2.sel [0, 1, 2, 3, 4] rfl)
  refine f_iln 1 rfl hL rfl ?_
  refine m_k1 (t101h (h := a) ra) hw hm rfl rfl rfl rfl rfl (fun hc2 hw2 hm2 => ?_)
  refine f_if rfl (bI_r _) (fun c_9 => absurd (show (bI (decide (0 ≤ a ∧ a < 10)) : Int) = (0 : Int) from c_9) (by rw [decide_eq_true h0.1]; decide)) (fun _ => ?_)
  refine f_iln 2 rfl hL rfl ?_
  refine m_k1 (t101h (h := b) rb) hw2 hm2 rfl rfl rfl rfl rfl (fun hc3 hw3 hm3 => ?_)
  refine f_if rfl (bI_r _) (fun c_9 => absurd (show (bI (decide (0 ≤ b ∧ b < 10)) : Int) = (0 : Int) from c_9) (by rw [decide_eq_true h0.2.1]; decide)) (fun _ => ?_)
  refine f_iln 2 rfl hL rfl ?_
  refine f_iln 1 rfl hL rfl ?_
  refine f_ic rfl rb ra (fun _ => ?_) (fun c_9 => absurd (show (a : Int) ≤ (b : Int) from h0.2.2) c_9)
  refine f_s [fi (0)] rfl rfl ?_
  refine f_istn [(3, fi (0)), (0, .ref 0), (1, fi (a)), (2, fi (b))] rfl (by decide) hL rfl (fun L3 hL3 => ?_)
  refine f_iln 2 rfl hL3 rfl ?_
  refine f_ist [(4, fi (a)), (3, fi (0)), (0, .ref 0), (1, fi (a)), (2, fi (b))] rfl (by decide) hL3 rfl (fun L4 hL4 => ?_)
  rw [show wtJ (lwC m) (b + 1 - a).toNat a = 0 + wtJ (lwC m) (b + 1 - a).toNat a by omega]
  exact hK (b + 1 - a).toNat hc3 m a 0 _ hw3 hm3 (fun _ _ _ _ => rfl) (by omega) (hL4.sel [0, 1, 2, 3, 4] rfl))
theorem lwC_r (m : Nat → Nat → Int) (h : Int) : -2147483648 ≤ lwC m h ∧ lwC m h ≤ 2147483647 := by
  have h1 := moC_r (m := m) (h := h) (s := 15)
  have h2 : 0 ≤ bC (ngS m 9 h) ∧ bC (ngS m 9 h) ≤ 5 := by
    rw [ngS_b, b5_C]
    have b : ∀ x : Bool, 0 ≤ bI x ∧ bI x ≤ 1 := fun x => by cases x <;> decide
    have := b (nB m 9 h 0)
    have := b (nB m 9 h 1)
    have := b (nB m 9 h 2)
    have := b (nB m 9 h 3)
    have := b (nB m 9 h 4)
    omega
  unfold lwC
  omega
theorem t125 {m : Nat → Nat → Int} (hn : 0 ≤ m 3 5 ∧ m 3 5 ≤ 4) (hp : 0 ≤ m 3 6 ∧ m 3 6 ≤ 5) : h_E 125 [.ref 0] m (some (fi (fsJ (lwC m) 10 0))) := h_E_of (R := ev_r125) rfl (fun hc hw hm => by
  have hL : f_L (lv_args 0 [.ref 0]) [(0, .ref 0)] := f_L_of rfl
  generalize lv_args 0 [.ref 0] = L at hL
  show x_W none (1, 0, 2, 0, 10, 5, 111, 0, 0, ev_t125) 0 L [] hc 0 0 _
  have hR := gi_R hm
  have hK : ∀ (n : Nat) (hc : ev_H) (m' : Nat → Nat → Int) (x : Int) (L : ev_L), y_in yGw hc → gi hc = m' → ag42 m m' → (0 ≤ x ∧ x + n = 10) → f_L L [(1, fi (x)), (0, .ref 0)] → x_W none (1, 0, 2, 0, 10, 5, 111, 0, 0, ev_t125) 2 L [] hc 0 0 (fun r' _ => r' = some (fi (fsJ (lwC m) n x))) := by
    intro n
    induction n with
    | zero =>
      intro hc m' x L hw hm ha hx hL
      refine f_iln 0 rfl hL rfl ?_
      refine f_bipush (n := 10) rfl (by decide) ?_
      refine f_ic rfl (by omega) (by decide) (fun _ => ?_) (fun c_9 => absurd (show (10 : Int) ≤ (x : Int) from (by omega)) c_9)
      refine f_bipush (n := -9) rfl (by decide) ?_
      exact f_ret1 rfl (rfl)
    | succ n ih =>
      intro hc m' x L hw hm ha hx hL
      refine f_iln 0 rfl hL rfl ?_
      refine f_bipush (n := 10) rfl (by decide) ?_
      refine f_ic rfl (by omega) (by decide) (fun c_9 => absurd (show (10 : Int) ≤ (x : Int) from c_9) (by omega)) (fun _ => ?_)
      refine f_aln 1 rfl hL rfl ?_
      refine f_iln 0 rfl hL rfl ?_
      obtain ⟨m9, q9, t9⟩ := (t121_x ha hn hp (h := x) (by omega))
      have r9 := lwC_r m x
      refine m_k1 t9 hw hm rfl rfl rfl (m_ar so0 hw rfl) rfl (fun hc1 hw1 hm1 => ?_)
      refine f_if rfl (by omega) (fun c1 => ?_) (fun c1 => ?_)
      · have c1 : (lwC m x : Int) ≤ (0 : Int) := c1
        refine f_inc 0 [(1, fi (x + 1)), (0, .ref 0)] rfl (by decide) hL rfl rfl (fun L1 hL1 => ?_)
        refine f_goto rfl ?_
        rw [show fsJ (lwC m) (n + 1) x = fsJ (lwC m) n (x + 1) from if_neg (by omega)]
        exact ih hc1 m9 _ _ hw1 hm1 q9 (by omega) (hL1.sel [0, 1] rfl)
      · have c1 : ¬ ((lwC m x : Int) ≤ (0 : Int)) := c1
        refine f_iln 0 rfl hL rfl ?_
        exact f_ret1 rfl (by rw [show fsJ (lwC m) (n + 1) x = x from if_pos (by omega)])
  refine f_s [fi (0)] rfl rfl ?_
  refine f_istn [(1, fi (0)), (0, .ref 0)] rfl (by decide) hL rfl (fun L2 hL2 => ?_)
  exact hK 10 hc m 0 _ hw hm (fun _ _ _ _ => rfl) (by decide) (hL2.sel [0, 1] rfl))
