/-! days of both over numbers and the seed -/
theorem gi_setl {hc : ev_H} {q a k : Nat} {fs : List Value} {s s' : Int64} (hq : hc[q]? = some (.inr (.inr (a, fs)))) (hk : fs[k]? = some (.long s)) : gi (hc.set q (.inr (.inr (a, fs.set k (.long s'))))) = gi hc := by
  funext q' i
  unfold gi
  rw [y_get_setO hq (List.getElem?_eq_some_iff.mp hk).1]
  by_cases c : q' = q ∧ i = k
  · obtain ⟨rfl, rfl⟩ := c
    rw [if_pos ⟨rfl, rfl⟩, f_get_o hq, hk] <;> rfl
  · rw [if_neg c]
def chs (g : Int64 → Int64) (c : Int64 → Int) : Nat → Int64 → List Int
  | 0, _ => []
  | n + 1, s => c (g s) :: chs g c n (g s)
theorem chs_s (g : Int64 → Int64) (c : Int64 → Int) (n : Nat) (s : Int64) : chs g c (n + 1) s = c (g s) :: chs g c n (g s) := rfl
theorem chs_0 (g : Int64 → Int64) (c : Int64 → Int) (s : Int64) : chs g c 0 s = [] := rfl
theorem chs_r {g : Int64 → Int64} {c : Int64 → Int} (h : ∀ s, 0 ≤ c s ∧ c s ≤ 29) : ∀ (n : Nat) (s : Int64), ∀ v ∈ chs g c n s, 0 ≤ v ∧ v ≤ 29
  | 0, _, v, hv => absurd hv List.not_mem_nil
  | n + 1, s, v, hv => by
    rw [chs_s] at hv
    rcases List.mem_cons.mp hv with rfl | hv
    · exact h _
    · exact chs_r h n _ v hv
def chV (s : Int64) : Int := (f_chance s).toInt32.toInt
theorem chV_e (s : Int64) : Value.int (f_chance s).toInt32 = fi (chV s) := by
  show _ = Value.int (Int32.ofInt (f_chance s).toInt32.toInt)
  rw [Int32.ofInt_toInt]
theorem chV_r (s : Int64) : 0 ≤ chV s ∧ chV s ≤ 29 := by
  obtain ⟨v, v1, v2, hv⟩ := f_chance_r s
  unfold chV
  rw [hv, x_i32 (by omega) (by omega)]
  exact ⟨v1, v2⟩
theorem f188n_loop {m : Int} (m1 : 1 ≤ m) (m2 : m ≤ 30) : ∀ (n : Nat) (d su : Int) (s : Int64) (a : Nat → Nat → Int) (hc : ev_H) (L : ev_L), 0 ≤ d → d + n = m → (0 ≤ a 3 5 ∧ a 3 5 ≤ 4) → (0 ≤ a 3 6 ∧ a 3 6 ≤ 5) → y_in yG hc → gi hc = a → y_get hc 0 11 = some (.long s) → f_L L [(3, fi (d)), (2, fi (su)), (0, .ref 0), (1, fi (m))] → x_W none (1, 0, 4, 1, 10, 6, 132, 0, 0, ev_t188) 29 L [] hc 0 0 (fun r h' => r = some (fi ((dC (chs f_seed1 chV n s) a su).2)) ∧ y_in yG h' ∧ gi h' = (dC (chs f_seed1 chV n s) a su).1 ∧ y_get h' 0 11 = some (.long (f_itr f_seed1 n s))) := by
  intro n
  induction n with
  | zero =>
    intro d su s a hc L d1 d2 hn hp hin hm hg hL
    rw [chs_0, f_itr_0]
    refine f_iln 0 rfl hL rfl ?_
    refine f_iln 3 rfl hL rfl ?_
    refine f_ic rfl (by omega) (by omega) (fun c0 => ?_) (fun c => absurd (show m ≤ d by omega) c)
    have c0 : (m : Int) ≤ (d : Int) := c0
    refine f_iln 1 rfl hL rfl ?_
    exact f_ret1 rfl ⟨rfl, hin, hm, hg⟩
  | succ n ih =>
    intro d su s a hc L d1 d2 hn hp hin hm hg hL
    obtain ⟨fs, q, -, -, -, s', g⟩ := g_o0 hin
    have es : s = s' := by rw [f_get_o q, g] at hg; cases hg; rfl
    subst es
    rw [chs_s, dC_s, f_itr_s]
    refine f_iln 0 rfl hL rfl ?_
    refine f_iln 3 rfl hL rfl ?_
    refine f_ic rfl (by omega) (by omega) (fun c => absurd (show m ≤ d from c) (by omega)) (fun c0 => ?_)
    have c0 : ¬ ((m : Int) ≤ (d : Int)) := c0
    refine f_aln 2 rfl hL rfl ?_
    refine f_aln 2 rfl hL rfl ?_
    refine f_gf rfl q g ?_
    refine f_ldc2r rfl ?_
    refine f_lmul rfl ?_
    refine f_ldc2r rfl ?_
    refine f_ladd rfl ?_
    rw [show s * 6364136223846793005 + 1442695040888963407 = f_seed1 s from rfl]
    refine f_pf rfl q (List.getElem?_eq_some_iff.mp g).1 rfl ?_
    have hin1 := f_in_setf hin (k := 11) (w := .long (f_seed1 s)) q rfl rfl rfl f_rAl
    have q1 := f_set_eq (c := .inr (.inr (9, fs.set 11 (.long (f_seed1 s))))) q
    have g1 : (fs.set 11 (.long (f_seed1 s)))[11]? = some (.long (f_seed1 s)) := by rw [List.getElem?_set_self (List.getElem?_eq_some_iff.mp g).1]
    have m1_ : gi (hc.set 0 (.inr (.inr (9, fs.set 11 (.long (f_seed1 s)))))) = gi hc := gi_setl q g
    rw [hm] at m1_
    generalize hc.set 0 (.inr (.inr (9, fs.set 11 (.long (f_seed1 s))))) = hc1 at hin1 q1 m1_ ⊢
    refine f_aln 2 rfl hL rfl ?_
    refine f_aln 2 rfl hL rfl ?_
    refine f_gf rfl q1 g1 ?_
    refine f_bipush (n := 33) rfl (by decide) ?_
    refine f_lushr rfl ?_
    refine f_ldc2r rfl ?_
    refine f_lrem rfl (by decide) ?_
    refine f_l2i rfl ?_
    rw [show x_lushr (f_seed1 s) (Int32.ofInt 33) - x_lushr (f_seed1 s) (Int32.ofInt 33) / 30 * 30 = f_chance (f_seed1 s) from rfl, chV_e]
    have rv := chV_r (f_seed1 s)
    generalize chV (f_seed1 s) = v9 at rv ⊢
    obtain ⟨hc2, a4, -, m2_⟩ := t187 (m := a) (v := v9) hn hp rv hc1 (y_win hin1) m1_
    obtain ⟨a2, u2⟩ := f_Mu (R := ev_r187) rfl yc187_0 hin1 (f_args_c f_rAr (f_args_c f_rAi f_args_n)) a4
    refine f_k0 a4 rfl rfl rfl (f_ar_v q1 rfl) rfl ?_
    obtain ⟨fs2, q2, g2⟩ := g_o0 a2
    refine f_iln 1 rfl hL rfl ?_
    refine f_aln 2 rfl hL rfl ?_
    refine f_gf rfl q2 g2.1 ?_
    have n2 : 0 ≤ acC a v9 3 5 ∧ acC a v9 3 5 ≤ 4 := by rw [acC_o a v9 (by decide) (by decide)]; exact hn
    have p2 : 0 ≤ acC a v9 3 6 ∧ acC a v9 3 6 ≤ 5 := by rw [acC_o a v9 (by decide) (by decide)]; exact hp
    obtain ⟨hc3, b4, -, m3_⟩ := t88_13 (m := acC a v9) n2 p2 hc2 (y_win a2) m2_
    obtain ⟨b2, u3⟩ := f_Mu (R := ev_r88) rfl yc88_1 a2 (f_args_c f_rAr f_args_n) b4
    have b4 : f_M 88 [.ref 13] hc2 (some (fi (bC (nb13 (acC a v9))))) hc3 := b4
    obtain ⟨fs13, q13⟩ := g_o13 a2
    refine f_k1 b4 rfl rfl rfl (f_ar_v q13 rfl) rfl ?_
    refine f_iadd rfl ?_
    refine f_istn [(2, fi (su + (bC (nb13 (acC a v9))))), (3, fi (d)), (0, .ref 0), (1, fi (m))] rfl (by decide) hL rfl (fun L1 hL1 => ?_)
    refine f_inc 1 [(3, fi (d + 1)), (2, fi (su + (bC (nb13 (acC a v9))))), (0, .ref 0), (1, fi (m))] rfl (by decide) hL1 rfl rfl (fun L2 hL2 => ?_)
    refine f_goto rfl ?_
    have e1 : y_get hc3 0 11 = some (.long (f_seed1 s)) := by rw [u3 0 11 (f_nc_ok (by decide)), u2 0 11 (f_nc_ok (by decide)), f_get_o q1]; exact g1
    have n3 : 0 ≤ phC13 (acC a v9) 3 5 ∧ phC13 (acC a v9) 3 5 ≤ 4 := by rw [ph13_c (by decide) (by decide) (by decide) (by decide)]; exact n2
    have p3 : 0 ≤ phC13 (acC a v9) 3 6 ∧ phC13 (acC a v9) 3 6 ≤ 5 := by rw [ph13_c (by decide) (by decide) (by decide) (by decide)]; exact p2
    exact ih (d + 1) (su + (bC (nb13 (acC a v9)))) (f_seed1 s) (phC13 (acC a v9)) hc3 _ (by omega) (by omega) n3 p3 b2 m3_ e1 (hL2.sel [0, 1, 2, 3] rfl)
theorem f188_in {hc : ev_H} (hin : y_in yG hc) {a : Nat → Nat → Int} (hm : gi hc = a) (hn : 0 ≤ a 3 5 ∧ a 3 5 ≤ 4) (hp : 0 ≤ a 3 6 ∧ a 3 6 ≤ 5) {s : Int64} (hg : y_get hc 0 11 = some (.long s)) {m : Int} (hr : 1 ≤ m ∧ m ≤ 30) : ∃ hc', f_M 188 [.ref 0, fi m] hc (some (fi ((dC (chs f_seed1 chV m.toNat s) (cpC a) 0).2))) hc' ∧ y_in yG hc' ∧ gi hc' = (dC (chs f_seed1 chV m.toNat s) (cpC a) 0).1 ∧ y_get hc' 0 11 = some (.long (f_itr f_seed1 m.toNat s)) := by
  have rm : -2147483648 ≤ m ∧ m ≤ 2147483647 := by omega
  have key : x_W none (1, 0, 4, 1, 10, 6, 132, 0, 0, ev_t188) 0 (lv_args 0 [.ref 0, fi m]) [] hc 0 0 (fun r h' => r = some (fi ((dC (chs f_seed1 chV m.toNat s) (cpC a) 0).2)) ∧ y_in yG h' ∧ gi h' = (dC (chs f_seed1 chV m.toNat s) (cpC a) 0).1 ∧ y_get h' 0 11 = some (.long (f_itr f_seed1 m.toNat s))) := by
    have hL : f_L (lv_args 0 [.ref 0, fi m]) [(0, .ref 0), (1, fi (m))] := f_L_of rfl
    generalize lv_args 0 [.ref 0, fi m] = L at hL
    refine f_iln 1 rfl hL rfl ?_
    refine f_s [fi (1), fi (m)] rfl rfl ?_
    refine f_ic rfl (by omega) (by omega) (fun c => absurd hr.1 (Int.not_le.mpr (show m < 1 from c))) (fun c1 => ?_)
    have c1 : ¬ ((m : Int) < (1 : Int)) := c1
    refine f_iln 1 rfl hL rfl ?_
    refine f_bipush (n := 30) rfl (by decide) ?_
    refine f_ic rfl (by omega) (by omega) (fun c2 => ?_) (fun c => absurd hr.2 c)
    have c2 : (m : Int) ≤ (30 : Int) := c2
    obtain ⟨fs, q, g3, g2, -, -⟩ := g_o0 hin
    refine f_aln 0 rfl hL rfl ?_
    refine f_gf rfl q g3 ?_
    refine f_aln 0 rfl hL rfl ?_
    refine f_gf rfl q g2 ?_
    obtain ⟨hc1, a4, -, m1_⟩ := t136 (m := a) hc (y_win hin) hm
    obtain ⟨a2, u1⟩ := f_Mu (R := ev_r136) rfl yc136_0 hin (f_args_c f_rAr (f_args_c f_rAr f_args_n)) a4
    obtain ⟨fs13, q13⟩ := g_o13 hin
    refine f_k0 a4 rfl rfl rfl (f_ar_v q13 rfl) rfl ?_
    refine f_s [fi (0)] rfl rfl ?_
    refine f_istn [(2, fi (0)), (0, .ref 0), (1, fi (m))] rfl (by decide) hL rfl (fun L1 hL1 => ?_)
    refine f_s [fi (0)] rfl rfl ?_
    refine f_istn [(3, fi (0)), (2, fi (0)), (0, .ref 0), (1, fi (m))] rfl (by decide) hL1 rfl (fun L2 hL2 => ?_)
    exact f188n_loop (m := m) hr.1 hr.2 m.toNat 0 0 s (cpC a) hc1 _ (by decide) (by omega) (by rw [cpC_o a (by omega)]; exact hn) (by rw [cpC_o a (by omega)]; exact hp) a2 m1_ (by rw [u1 0 11 (f_nc_ok (by decide))]; exact hg) (hL2.sel [0, 1, 2, 3] rfl)
  obtain ⟨n, r, h', e, rfl, e2, e3, e4⟩ := key
  exact ⟨h', fun R hR => by cases hR; exact ⟨n, e⟩, e2, e3, e4⟩
theorem f188_out {hc : ev_H} {m : Int} (rm : -2147483648 ≤ m ∧ m ≤ 2147483647) (hr : ¬ (1 ≤ m ∧ m ≤ 30)) : f_M 188 [.ref 0, fi m] hc (some (fi (-2))) hc := f_M_of (R := ev_r188) rfl (by
  have hL : f_L (lv_args 0 [.ref 0, fi m]) [(0, .ref 0), (1, fi (m))] := f_L_of rfl
  generalize lv_args 0 [.ref 0, fi m] = L at hL
  show x_W none (1, 0, 4, 1, 10, 6, 132, 0, 0, ev_t188) 0 L [] hc 0 0 _
  refine f_iln 1 rfl hL rfl ?_
  refine f_s [fi (1), fi (m)] rfl rfl ?_
  refine f_ic rfl (by omega) (by omega) (fun c1 => ?_) (fun c1 => ?_)
  · have c1 : (m : Int) < (1 : Int) := c1
    refine f_bipush (n := -2) rfl (by decide) ?_
    exact f_ret1 rfl ⟨rfl, rfl⟩
  · have c1 : ¬ ((m : Int) < (1 : Int)) := c1
    refine f_iln 1 rfl hL rfl ?_
    refine f_bipush (n := 30) rfl (by decide) ?_
    refine f_ic rfl (by omega) (by omega) (fun c => absurd (show 1 ≤ m ∧ m ≤ 30 from ⟨by omega, c⟩) hr) (fun c2 => ?_)
    have c2 : ¬ ((m : Int) ≤ (30 : Int)) := c2
    refine f_bipush (n := -2) rfl (by decide) ?_
    exact f_ret1 rfl ⟨rfl, rfl⟩)
set_option maxHeartbeats 2000000 in
theorem f190n_loop {m : Int} (m1 : 1 ≤ m) (m2 : m ≤ 30) : ∀ (n : Nat) (k : Int) (s : Int64) (a b : Nat → Nat → Int) (hc : ev_H) (L : ev_L), 0 ≤ k → k + n = m → (PR (mx2 a b) ∧ SW a b) → y_in yG hc → gi hc = b → y_get hc 55 25 = some (.long s) → f_L L [(2, fi (k)), (0, .ref 55), (1, fi (m))] → x_W none (1, 0, 5, 1, 11, 4, 91, 0, 0, ev_t190) 21 L [] hc 0 0 (fun r h' => r = some (fi ((aw1 (dM (chs f_seed1 chV n s) b) 32 4 (aw1 (dM (chs f_seed1 chV n s) b) 31 3 (aw1 (dM (chs f_seed1 chV n s) b) 30 2 (aw1 (dM (chs f_seed1 chV n s) b) 29 1 (aw1 (dM (chs f_seed1 chV n s) b) 28 0 (0)))))) - (aw1 (dM (chs f_seed1 chV n s) b) 14 4 (aw1 (dM (chs f_seed1 chV n s) b) 13 3 (aw1 (dM (chs f_seed1 chV n s) b) 12 2 (aw1 (dM (chs f_seed1 chV n s) b) 11 1 (aw1 (dM (chs f_seed1 chV n s) b) 10 0 (0)))))))) ∧ y_in yG h' ∧ gi h' = (dM (chs f_seed1 chV n s) b) ∧ y_get h' 55 25 = some (.long (f_itr f_seed1 n s))) := by
  intro n
  induction n with
  | zero =>
    intro k s a b hc L k1 k2 hW hin hm hg hL
    obtain ⟨fs, q⟩ := g_55 hin
    rw [chs_0, f_itr_0]
    refine f_iln 0 rfl hL rfl ?_
    refine f_iln 2 rfl hL rfl ?_
    refine f_ic rfl (by omega) (by omega) (fun c0 => ?_) (fun c => absurd (show m ≤ k by omega) c)
    have c0 : (m : Int) ≤ (k : Int) := c0
    have hpb : 0 ≤ b 55 1 ∧ b 55 1 ≤ 5 := by have := hW.1.2.1.2; have e : a 3 6 = b 55 1 := hW.1.1.2; rw [← e]; exact this
    obtain ⟨hc1, a4, -, m1_⟩ := t189_1 (m := b) hpb hc (y_win hin) hm
    obtain ⟨a2, u1⟩ := f_Mu (R := ev_r189) rfl yc189_0 hin (f_args_c f_rAr (f_args_c (f_rA (by decide) (by decide) (by decide) (by decide)) f_args_n)) a4
    obtain ⟨fs1, q1⟩ := g_55 a2
    obtain ⟨hc2, b4, -, m2_⟩ := t189_0 (m := b) hpb hc1 (y_win a2) m1_
    obtain ⟨b2, u2⟩ := f_Mu (R := ev_r189) rfl yc189_1 a2 (f_args_c f_rAr (f_args_c (f_rA (by decide) (by decide) (by decide) (by decide)) f_args_n)) b4
    refine f_aln 1 rfl hL rfl ?_
    refine f_s [fi (1), .ref 55] rfl rfl ?_
    refine f_k1 a4 rfl rfl rfl (f_ar_v q rfl) rfl ?_
    refine f_aln 1 rfl hL rfl ?_
    refine f_s [fi (0), .ref 55, fi ((aw1 b 32 4 (aw1 b 31 3 (aw1 b 30 2 (aw1 b 29 1 (aw1 b 28 0 (0)))))))] rfl rfl ?_
    refine f_k1 b4 rfl rfl rfl (f_ar_v q1 rfl) rfl ?_
    refine f_isub rfl ?_
    exact f_ret1 rfl ⟨rfl, b2, m2_, by rw [u2 55 25 (f_nc_ok (by decide)), u1 55 25 (f_nc_ok (by decide))]; exact hg⟩
  | succ n ih =>
    intro k s a b hc L k1 k2 hW hin hm hg hL
    obtain ⟨fs, q⟩ := g_55 hin
    have g : fs[25]? = some (.long s) := by rw [f_get_o q] at hg; exact hg
    rw [chs_s, dM_s, f_itr_s]
    refine f_iln 0 rfl hL rfl ?_
    refine f_iln 2 rfl hL rfl ?_
    refine f_ic rfl (by omega) (by omega) (fun c => absurd (show m ≤ k from c) (by omega)) (fun c0 => ?_)
    have c0 : ¬ ((m : Int) ≤ (k : Int)) := c0
    refine f_aln 1 rfl hL rfl ?_
    refine f_aln 1 rfl hL rfl ?_
    refine f_gf rfl q g ?_
    refine f_ldc2r rfl ?_
    refine f_lmul rfl ?_
    refine f_ldc2r rfl ?_
    refine f_ladd rfl ?_
    rw [show s * 6364136223846793005 + 1442695040888963407 = f_seed1 s from rfl]
    refine f_pf rfl q (List.getElem?_eq_some_iff.mp g).1 rfl ?_
    have hin1 := f_in_setf hin (k := 25) (w := .long (f_seed1 s)) q rfl rfl rfl f_rAl
    have q1 := f_set_eq (c := .inr (.inr (10, fs.set 25 (.long (f_seed1 s))))) q
    have g1 : (fs.set 25 (.long (f_seed1 s)))[25]? = some (.long (f_seed1 s)) := by rw [List.getElem?_set_self (List.getElem?_eq_some_iff.mp g).1]
    have m1_ : gi (hc.set 55 (.inr (.inr (10, fs.set 25 (.long (f_seed1 s)))))) = gi hc := gi_setl q g
    rw [hm] at m1_
    generalize hc.set 55 (.inr (.inr (10, fs.set 25 (.long (f_seed1 s))))) = hc1 at hin1 q1 m1_ ⊢
    refine f_aln 1 rfl hL rfl ?_
    refine f_gf rfl q1 g1 ?_
    refine f_bipush (n := 33) rfl (by decide) ?_
    refine f_lushr rfl ?_
    refine f_ldc2r rfl ?_
    refine f_lrem rfl (by decide) ?_
    refine f_l2i rfl ?_
    rw [show x_lushr (f_seed1 s) (Int32.ofInt 33) - x_lushr (f_seed1 s) (Int32.ofInt 33) / 30 * 30 = f_chance (f_seed1 s) from rfl, chV_e]
    have rv := chV_r (f_seed1 s)
    generalize chV (f_seed1 s) = v9 at rv ⊢
    have es : y_get hc1 55 25 = some (.long (f_seed1 s)) := by rw [f_get_o q1]; exact g1
    obtain ⟨hP9, hS9⟩ := hW
    have day := SW.day hP9 hS9 rv
    have hd : v9.tdiv 5 = v9 / 5 := Int.tdiv_eq_ediv_of_nonneg rv.1
    obtain ⟨fsn, qn, nm, pp, w0, w1, nm1, nm2, pp1, pp2⟩ := g_np hin1
    have en : b 55 0 = nm := by
      have z : y_get hc1 55 0 = some (.int (Int32.ofInt nm)) := (f_get_o qn).trans w0
      rw [← m1_, gi_of z]
      exact x_i32 (by omega) (by omega)
    have ep : b 55 1 = pp := by
      have z : y_get hc1 55 1 = some (.int (Int32.ofInt pp)) := (f_get_o qn).trans w1
      rw [← m1_, gi_of z]
      exact x_i32 (by omega) (by omega)
    refine f_istn [(3, fi (v9)), (2, fi (k)), (0, .ref 55), (1, fi (m))] rfl (by decide) hL rfl (fun L1 hL1 => ?_)
    refine f_iln 0 rfl hL1 rfl ?_
    refine f_s [fi (5), fi (v9)] rfl rfl ?_
    refine f_irem rfl rv.1 (by omega) (by decide) (by decide) ?_
    refine f_ist [(4, fi (v9 % 5)), (3, fi (v9)), (2, fi (k)), (0, .ref 55), (1, fi (m))] rfl (by decide) hL1 rfl (fun L2 hL2 => ?_)
    refine f_aln 3 rfl hL2 rfl ?_
    refine f_il 0 rfl hL2 rfl ?_
    have tail : ∀ (hc2 : ev_H) (L2 : ev_L), y_in yG hc2 → gi hc2 = acM b v9 → y_get hc2 55 25 = some (.long (f_seed1 s)) → f_L L2 [(4, fi (v9 % 5)), (3, fi (v9)), (2, fi (k)), (0, .ref 55), (1, fi (m))] → x_W none (1, 0, 5, 1, 11, 4, 91, 0, 0, ev_t190) 137 L2 [] hc2 0 0 (fun r h' => r = some (fi ((aw1 (dM (chs f_seed1 chV n (f_seed1 s)) (l1_18_0 (acM b v9) 0).1) 32 4 (aw1 (dM (chs f_seed1 chV n (f_seed1 s)) (l1_18_0 (acM b v9) 0).1) 31 3 (aw1 (dM (chs f_seed1 chV n (f_seed1 s)) (l1_18_0 (acM b v9) 0).1) 30 2 (aw1 (dM (chs f_seed1 chV n (f_seed1 s)) (l1_18_0 (acM b v9) 0).1) 29 1 (aw1 (dM (chs f_seed1 chV n (f_seed1 s)) (l1_18_0 (acM b v9) 0).1) 28 0 (0)))))) - (aw1 (dM (chs f_seed1 chV n (f_seed1 s)) (l1_18_0 (acM b v9) 0).1) 14 4 (aw1 (dM (chs f_seed1 chV n (f_seed1 s)) (l1_18_0 (acM b v9) 0).1) 13 3 (aw1 (dM (chs f_seed1 chV n (f_seed1 s)) (l1_18_0 (acM b v9) 0).1) 12 2 (aw1 (dM (chs f_seed1 chV n (f_seed1 s)) (l1_18_0 (acM b v9) 0).1) 11 1 (aw1 (dM (chs f_seed1 chV n (f_seed1 s)) (l1_18_0 (acM b v9) 0).1) 10 0 (0)))))))) ∧ y_in yG h' ∧ gi h' = dM (chs f_seed1 chV n (f_seed1 s)) (l1_18_0 (acM b v9) 0).1 ∧ y_get h' 55 25 = some (.long (f_itr f_seed1 n (f_seed1 s)))) := fun hc2 L2 i2 m2_ e2 hL2 => by
      have hJ : jM18 (acM b v9) := SW.j day.1 day.2.1
      obtain ⟨fs2, q2⟩ := g_55 i2
      obtain ⟨hc3, b4, -, m3_⟩ := t91_1 (m := acM b v9) hJ hc2 (y_win i2) m2_
      obtain ⟨b2, u3⟩ := f_Mu (R := ev_r91) rfl yc91_1 i2 (f_args_c f_rAr (f_args_c (f_rA (by decide) (by decide) (by decide) (by decide)) f_args_n)) b4
      refine f_aln 3 rfl hL2 rfl ?_
      refine f_s [fi (1), .ref 55] rfl rfl ?_
      refine f_k1 b4 rfl rfl rfl (f_ar_v q2 rfl) rfl ?_
      refine f_s [] rfl rfl ?_
      refine f_inc 2 [(2, fi (k + 1)), (4, fi (v9 % 5)), (3, fi (v9)), (0, .ref 55), (1, fi (m))] rfl (by decide) hL2 rfl rfl (fun L3 hL3 => ?_)
      refine f_goto rfl ?_
      exact ih (k + 1) (f_seed1 s) (phC13 (acC a v9)) _ hc3 _ (by omega) (by omega) day.2.2 b2 m3_ (by rw [u3 55 25 (f_nc_ok (by decide))]; exact e2) (hL3.sel [0, 3, 4] rfl)
    have hPs := f61 hc1 (v9 % 5) pp (by omega) (by omega) qn w1
    have hNm := f46 hc1 (v9 / 5) nm (by omega) (by omega) qn w0
    refine f_k1 hPs rfl rfl rfl (f_ar_v q1 rfl) rfl ?_
    refine f_if rfl (by split <;> omega) (fun c6 => ?_) (fun c6 => ?_)
    · have c6 : (if 0 ≤ v9 % 5 ∧ v9 % 5 ≤ pp - 1 then 1 else 0 : Int) = (0 : Int) := c6
      have n5_ : ¬ (v9 % 5 < b 55 1 ∧ v9 / 5 = 5) := fun z => by
        have z1 := z.1
        rw [ep] at z1
        rw [if_pos (by omega)] at c6
        exact absurd c6 (by decide)
      refine f_aln 3 rfl hL2 rfl ?_
      refine f_il 0 rfl hL2 rfl ?_
      refine f_k1 hPs rfl rfl rfl (f_ar_v q1 rfl) rfl ?_
      refine f_if rfl (by split <;> omega) (fun c2 => ?_) (fun c2 => ?_)
      · have c2 : (if 0 ≤ v9 % 5 ∧ v9 % 5 ≤ pp - 1 then 1 else 0 : Int) = (0 : Int) := c2
        have p5_ : ¬ v9 % 5 < b 55 1 := fun z => by
          rw [ep] at z
          rw [if_pos (by omega)] at c2
          exact absurd c2 (by decide)
        exact tail hc1 _ hin1 (m1_.trans ((if_neg n5_).trans (if_neg (fun z => p5_ z.1))).symm) es hL2
      · have c2 : ¬ ((if 0 ≤ v9 % 5 ∧ v9 % 5 ≤ pp - 1 then 1 else 0 : Int) = (0 : Int)) := c2
        have p5_ : v9 % 5 < b 55 1 := by
          rw [ep]
          by_cases z : 0 ≤ v9 % 5 ∧ v9 % 5 ≤ pp - 1
          · omega
          · exact absurd (if_neg z) c2
        refine f_iln 1 rfl hL2 rfl ?_
        refine f_s [fi (5), fi (v9)] rfl rfl ?_
        refine f_idiv rfl (by omega) (by omega) (by decide) (by decide) ?_
        rw [hd]
        refine f_s [fi (4), fi (v9 / 5)] rfl rfl ?_
        refine f_ic rfl (by omega) (by omega) (fun c3 => ?_) (fun c3 => ?_)
        · have c3 : (4 : Int) ≤ (v9 / 5 : Int) := c3
          exact tail hc1 _ hin1 (m1_.trans ((if_neg n5_).trans (if_neg (fun z => absurd z.2.1 (by omega)))).symm) es hL2
        · have c3 : ¬ ((4 : Int) ≤ (v9 / 5 : Int)) := c3
          refine f_aln 3 rfl hL2 rfl ?_
          refine f_iln 1 rfl hL2 rfl ?_
          refine f_s [fi (5), fi (v9), .ref 55] rfl rfl ?_
          refine f_idiv rfl (by omega) (by omega) (by decide) (by decide) ?_
          rw [hd]
          refine f_k1 hNm rfl rfl rfl (f_ar_v q1 rfl) rfl ?_
          refine f_if rfl (by split <;> omega) (fun c4 => ?_) (fun c4 => ?_)
          · have c4 : (if 0 ≤ v9 / 5 ∧ v9 / 5 ≤ nm - 1 then 1 else 0 : Int) = (0 : Int) := c4
            have k5_ : ¬ v9 / 5 < b 55 0 := fun z => by
              rw [en] at z
              rw [if_pos (by omega)] at c4
              exact absurd c4 (by decide)
            exact tail hc1 _ hin1 (m1_.trans ((if_neg n5_).trans (if_neg (fun z => k5_ z.2.2.1))).symm) es hL2
          · have c4 : ¬ ((if 0 ≤ v9 / 5 ∧ v9 / 5 ≤ nm - 1 then 1 else 0 : Int) = (0 : Int)) := c4
            have k5_ : v9 / 5 < b 55 0 := by
              rw [en]
              by_cases z : 0 ≤ v9 / 5 ∧ v9 / 5 ≤ nm - 1
              · omega
              · exact absurd (if_neg z) c4
            obtain ⟨r8, e8, hC⟩ := f_Mp (R := ev_r77) rfl yc77_1 f_P_ok (by decide) hin1 (as := [.ref 55, fi 1, fi (v9 % 5), fi (v9 / 5)]) (f_args_c f_rAr (f_args_c (f_rA (by decide) (by decide) (by decide) (by decide)) (f_args_c (f_rA (by decide) (by decide) (by show (0 : Int) ≤ _; omega) (by show _ ≤ (4 : Int); omega)) (f_args_c (f_rA (by decide) (by decide) (by show (0 : Int) ≤ _; omega) (by show _ ≤ (3 : Int); omega)) f_args_n))))
            have hR9 := gi_R m1_
            obtain ⟨hc8, t8, -, -⟩ := t77_1 (m := b) (p := v9 % 5) (k := v9 / 5) (by rw [ep]; omega) (by omega) (by omega) (by omega) (by omega) rfl (hR9 _ _) rfl (hR9 _ _) hc1 (y_win hin1) m1_
            obtain ⟨rfl, -⟩ := f_M.un (R := ev_r77) rfl hC t8
            have hC : f_M 77 [.ref 55, fi 1, fi (v9 % 5), fi (v9 / 5)] hc1 (some (fi (bI (decide (caM b (v9 % 5) (v9 / 5)))))) hc1 := hC
            refine f_aln 3 rfl hL2 rfl ?_
            refine f_s [fi (1), .ref 55] rfl rfl ?_
            refine f_il 0 rfl hL2 rfl ?_
            refine f_iln 1 rfl hL2 rfl ?_
            refine f_s [fi (5), fi (v9), fi (v9 % 5), fi (1), .ref 55] rfl rfl ?_
            refine f_idiv rfl (by omega) (by omega) (by decide) (by decide) ?_
            rw [hd]
            refine f_k1 hC rfl rfl rfl (f_ar_v q1 rfl) rfl ?_
            refine f_if rfl (bI_r _) (fun c5 => ?_) (fun c5 => ?_)
            · have c5 : (bI (decide (caM b (v9 % 5) (v9 / 5))) : Int) = (0 : Int) := c5
              have c5 : ¬ (caM b (v9 % 5) (v9 / 5)) := bI_f c5
              exact tail hc1 _ hin1 (m1_.trans ((if_neg n5_).trans (if_neg (fun z => c5 z.2.2.2))).symm) es hL2
            · have c5 : ¬ ((bI (decide (caM b (v9 % 5) (v9 / 5))) : Int) = (0 : Int)) := c5
              have c5 : caM b (v9 % 5) (v9 / 5) := bI_t c5
              obtain ⟨hc9, t4, -, m9_⟩ := t79_1 (m := b) (p := v9 % 5) (k := v9 / 5) (by omega) (by omega) (by omega) hc1 (y_win hin1) m1_
              obtain ⟨t2, u9⟩ := f_Mu (R := ev_r79) rfl yc79_1 hin1 (f_args_c f_rAr (f_args_c (f_rA (by decide) (by decide) (by decide) (by decide)) (f_args_c (f_rA (by decide) (by decide) (by show (0 : Int) ≤ _; omega) (by show _ ≤ (4 : Int); omega)) (f_args_c ⟨Int32.ofInt (v9 / 5), rfl, Or.inl ⟨by rw [x_i32 (by omega) (by omega)]; show (0 : Int) ≤ _; omega, by rw [x_i32 (by omega) (by omega)]; show _ ≤ (3 : Int); omega⟩⟩ f_args_n)))) t4
              refine f_aln 3 rfl hL2 rfl ?_
              refine f_s [fi (1), .ref 55] rfl rfl ?_
              refine f_il 0 rfl hL2 rfl ?_
              refine f_iln 1 rfl hL2 rfl ?_
              refine f_s [fi (5), fi (v9), fi (v9 % 5), fi (1), .ref 55] rfl rfl ?_
              refine f_idiv rfl (by omega) (by omega) (by decide) (by decide) ?_
              rw [hd]
              refine f_k0 t4 rfl rfl rfl (f_ar_v q1 rfl) rfl ?_
              exact tail hc9 _ t2 (m9_.trans ((if_neg n5_).trans (if_pos ⟨p5_, by omega, k5_, c5⟩)).symm) (by rw [u9 55 25 (f_nc_ok (by decide))]; exact es) hL2
    · have c6 : ¬ ((if 0 ≤ v9 % 5 ∧ v9 % 5 ≤ pp - 1 then 1 else 0 : Int) = (0 : Int)) := c6
      have p6_ : v9 % 5 < b 55 1 := by
        rw [ep]
        by_cases z : 0 ≤ v9 % 5 ∧ v9 % 5 ≤ pp - 1
        · omega
        · exact absurd (if_neg z) c6
      refine f_iln 1 rfl hL2 rfl ?_
      refine f_s [fi (5), fi (v9)] rfl rfl ?_
      refine f_idiv rfl (by omega) (by omega) (by decide) (by decide) ?_
      rw [hd]
      refine f_s [fi (5), fi (v9 / 5)] rfl rfl ?_
      refine f_ic rfl (by omega) (by omega) (fun c7 => ?_) (fun c7 => ?_)
      · have c7 : ¬ (v9 / 5 : Int) = (5 : Int) := c7
        have n5_ : ¬ (v9 % 5 < b 55 1 ∧ v9 / 5 = 5) := fun z => by omega
        refine f_aln 3 rfl hL2 rfl ?_
        refine f_il 0 rfl hL2 rfl ?_
        refine f_k1 hPs rfl rfl rfl (f_ar_v q1 rfl) rfl ?_
        refine f_if rfl (by split <;> omega) (fun c2 => ?_) (fun c2 => ?_)
        · have c2 : (if 0 ≤ v9 % 5 ∧ v9 % 5 ≤ pp - 1 then 1 else 0 : Int) = (0 : Int) := c2
          have p5_ : ¬ v9 % 5 < b 55 1 := fun z => by
            rw [ep] at z
            rw [if_pos (by omega)] at c2
            exact absurd c2 (by decide)
          exact tail hc1 _ hin1 (m1_.trans ((if_neg n5_).trans (if_neg (fun z => p5_ z.1))).symm) es hL2
        · have c2 : ¬ ((if 0 ≤ v9 % 5 ∧ v9 % 5 ≤ pp - 1 then 1 else 0 : Int) = (0 : Int)) := c2
          have p5_ : v9 % 5 < b 55 1 := by
            rw [ep]
            by_cases z : 0 ≤ v9 % 5 ∧ v9 % 5 ≤ pp - 1
            · omega
            · exact absurd (if_neg z) c2
          refine f_iln 1 rfl hL2 rfl ?_
          refine f_s [fi (5), fi (v9)] rfl rfl ?_
          refine f_idiv rfl (by omega) (by omega) (by decide) (by decide) ?_
          rw [hd]
          refine f_s [fi (4), fi (v9 / 5)] rfl rfl ?_
          refine f_ic rfl (by omega) (by omega) (fun c3 => ?_) (fun c3 => ?_)
          · have c3 : (4 : Int) ≤ (v9 / 5 : Int) := c3
            exact tail hc1 _ hin1 (m1_.trans ((if_neg n5_).trans (if_neg (fun z => absurd z.2.1 (by omega)))).symm) es hL2
          · have c3 : ¬ ((4 : Int) ≤ (v9 / 5 : Int)) := c3
            refine f_aln 3 rfl hL2 rfl ?_
            refine f_iln 1 rfl hL2 rfl ?_
            refine f_s [fi (5), fi (v9), .ref 55] rfl rfl ?_
            refine f_idiv rfl (by omega) (by omega) (by decide) (by decide) ?_
            rw [hd]
            refine f_k1 hNm rfl rfl rfl (f_ar_v q1 rfl) rfl ?_
            refine f_if rfl (by split <;> omega) (fun c4 => ?_) (fun c4 => ?_)
            · have c4 : (if 0 ≤ v9 / 5 ∧ v9 / 5 ≤ nm - 1 then 1 else 0 : Int) = (0 : Int) := c4
              have k5_ : ¬ v9 / 5 < b 55 0 := fun z => by
                rw [en] at z
                rw [if_pos (by omega)] at c4
                exact absurd c4 (by decide)
              exact tail hc1 _ hin1 (m1_.trans ((if_neg n5_).trans (if_neg (fun z => k5_ z.2.2.1))).symm) es hL2
            · have c4 : ¬ ((if 0 ≤ v9 / 5 ∧ v9 / 5 ≤ nm - 1 then 1 else 0 : Int) = (0 : Int)) := c4
              have k5_ : v9 / 5 < b 55 0 := by
                rw [en]
                by_cases z : 0 ≤ v9 / 5 ∧ v9 / 5 ≤ nm - 1
                · omega
                · exact absurd (if_neg z) c4
              obtain ⟨r8, e8, hC⟩ := f_Mp (R := ev_r77) rfl yc77_1 f_P_ok (by decide) hin1 (as := [.ref 55, fi 1, fi (v9 % 5), fi (v9 / 5)]) (f_args_c f_rAr (f_args_c (f_rA (by decide) (by decide) (by decide) (by decide)) (f_args_c (f_rA (by decide) (by decide) (by show (0 : Int) ≤ _; omega) (by show _ ≤ (4 : Int); omega)) (f_args_c (f_rA (by decide) (by decide) (by show (0 : Int) ≤ _; omega) (by show _ ≤ (3 : Int); omega)) f_args_n))))
              have hR9 := gi_R m1_
              obtain ⟨hc8, t8, -, -⟩ := t77_1 (m := b) (p := v9 % 5) (k := v9 / 5) (by rw [ep]; omega) (by omega) (by omega) (by omega) (by omega) rfl (hR9 _ _) rfl (hR9 _ _) hc1 (y_win hin1) m1_
              obtain ⟨rfl, -⟩ := f_M.un (R := ev_r77) rfl hC t8
              have hC : f_M 77 [.ref 55, fi 1, fi (v9 % 5), fi (v9 / 5)] hc1 (some (fi (bI (decide (caM b (v9 % 5) (v9 / 5)))))) hc1 := hC
              refine f_aln 3 rfl hL2 rfl ?_
              refine f_s [fi (1), .ref 55] rfl rfl ?_
              refine f_il 0 rfl hL2 rfl ?_
              refine f_iln 1 rfl hL2 rfl ?_
              refine f_s [fi (5), fi (v9), fi (v9 % 5), fi (1), .ref 55] rfl rfl ?_
              refine f_idiv rfl (by omega) (by omega) (by decide) (by decide) ?_
              rw [hd]
              refine f_k1 hC rfl rfl rfl (f_ar_v q1 rfl) rfl ?_
              refine f_if rfl (bI_r _) (fun c5 => ?_) (fun c5 => ?_)
              · have c5 : (bI (decide (caM b (v9 % 5) (v9 / 5))) : Int) = (0 : Int) := c5
                have c5 : ¬ (caM b (v9 % 5) (v9 / 5)) := bI_f c5
                exact tail hc1 _ hin1 (m1_.trans ((if_neg n5_).trans (if_neg (fun z => c5 z.2.2.2))).symm) es hL2
              · have c5 : ¬ ((bI (decide (caM b (v9 % 5) (v9 / 5))) : Int) = (0 : Int)) := c5
                have c5 : caM b (v9 % 5) (v9 / 5) := bI_t c5
                obtain ⟨hc9, t4, -, m9_⟩ := t79_1 (m := b) (p := v9 % 5) (k := v9 / 5) (by omega) (by omega) (by omega) hc1 (y_win hin1) m1_
                obtain ⟨t2, u9⟩ := f_Mu (R := ev_r79) rfl yc79_1 hin1 (f_args_c f_rAr (f_args_c (f_rA (by decide) (by decide) (by decide) (by decide)) (f_args_c (f_rA (by decide) (by decide) (by show (0 : Int) ≤ _; omega) (by show _ ≤ (4 : Int); omega)) (f_args_c ⟨Int32.ofInt (v9 / 5), rfl, Or.inl ⟨by rw [x_i32 (by omega) (by omega)]; show (0 : Int) ≤ _; omega, by rw [x_i32 (by omega) (by omega)]; show _ ≤ (3 : Int); omega⟩⟩ f_args_n)))) t4
                refine f_aln 3 rfl hL2 rfl ?_
                refine f_s [fi (1), .ref 55] rfl rfl ?_
                refine f_il 0 rfl hL2 rfl ?_
                refine f_iln 1 rfl hL2 rfl ?_
                refine f_s [fi (5), fi (v9), fi (v9 % 5), fi (1), .ref 55] rfl rfl ?_
                refine f_idiv rfl (by omega) (by omega) (by decide) (by decide) ?_
                rw [hd]
                refine f_k0 t4 rfl rfl rfl (f_ar_v q1 rfl) rfl ?_
                exact tail hc9 _ t2 (m9_.trans ((if_neg n5_).trans (if_pos ⟨p5_, by omega, k5_, c5⟩)).symm) (by rw [u9 55 25 (f_nc_ok (by decide))]; exact es) hL2
      · have c7 : ¬ (¬ (v9 / 5 : Int) = (5 : Int)) := c7
        obtain ⟨hc9, t4, -, m9_⟩ := t79_1 (m := b) (p := v9 % 5) (k := -9) (by omega) (by omega) (by omega) hc1 (y_win hin1) m1_
        obtain ⟨t2, u9⟩ := f_Mu (R := ev_r79) rfl yc79_1 hin1 (f_args_c f_rAr (f_args_c (f_rA (by decide) (by decide) (by decide) (by decide)) (f_args_c (f_rA (by decide) (by decide) (by show (0 : Int) ≤ _; omega) (by show _ ≤ (4 : Int); omega)) (f_args_c ⟨Int32.ofInt (-9), rfl, Or.inr ⟨rfl, by decide⟩⟩ f_args_n)))) t4
        refine f_aln 3 rfl hL2 rfl ?_
        refine f_s [fi (1), .ref 55] rfl rfl ?_
        refine f_il 0 rfl hL2 rfl ?_
        refine f_bipush (n := -9) rfl (by decide) ?_
        refine f_k0 t4 rfl rfl rfl (f_ar_v q1 rfl) rfl ?_
        refine f_goto rfl ?_
        exact tail hc9 _ t2 (m9_.trans (if_pos ⟨p6_, by omega⟩).symm) (by rw [u9 55 25 (f_nc_ok (by decide))]; exact es) hL2
theorem f190_in {hc : ev_H} (hin : y_in yG hc) {a b : Nat → Nat → Int} (hm : gi hc = b) (hW : PR (mx2 a (laT b)) ∧ SW a (laT b)) {s : Int64} (hg : y_get hc 55 25 = some (.long s)) {m : Int} (hr : 1 ≤ m ∧ m ≤ 30) : ∃ hc', f_M 190 [.ref 55, fi m] hc (some (fi ((aw1 (dM (chs f_seed1 chV m.toNat s) (laT b)) 32 4 (aw1 (dM (chs f_seed1 chV m.toNat s) (laT b)) 31 3 (aw1 (dM (chs f_seed1 chV m.toNat s) (laT b)) 30 2 (aw1 (dM (chs f_seed1 chV m.toNat s) (laT b)) 29 1 (aw1 (dM (chs f_seed1 chV m.toNat s) (laT b)) 28 0 (0)))))) - (aw1 (dM (chs f_seed1 chV m.toNat s) (laT b)) 14 4 (aw1 (dM (chs f_seed1 chV m.toNat s) (laT b)) 13 3 (aw1 (dM (chs f_seed1 chV m.toNat s) (laT b)) 12 2 (aw1 (dM (chs f_seed1 chV m.toNat s) (laT b)) 11 1 (aw1 (dM (chs f_seed1 chV m.toNat s) (laT b)) 10 0 (0))))))))) hc' ∧ y_in yG hc' ∧ gi hc' = (dM (chs f_seed1 chV m.toNat s) (laT b)) ∧ y_get hc' 55 25 = some (.long (f_itr f_seed1 m.toNat s)) := by
  have rm : -2147483648 ≤ m ∧ m ≤ 2147483647 := by omega
  have key : x_W none (1, 0, 5, 1, 11, 4, 91, 0, 0, ev_t190) 0 (lv_args 0 [.ref 55, fi m]) [] hc 0 0 (fun r h' => r = some (fi ((aw1 (dM (chs f_seed1 chV m.toNat s) (laT b)) 32 4 (aw1 (dM (chs f_seed1 chV m.toNat s) (laT b)) 31 3 (aw1 (dM (chs f_seed1 chV m.toNat s) (laT b)) 30 2 (aw1 (dM (chs f_seed1 chV m.toNat s) (laT b)) 29 1 (aw1 (dM (chs f_seed1 chV m.toNat s) (laT b)) 28 0 (0)))))) - (aw1 (dM (chs f_seed1 chV m.toNat s) (laT b)) 14 4 (aw1 (dM (chs f_seed1 chV m.toNat s) (laT b)) 13 3 (aw1 (dM (chs f_seed1 chV m.toNat s) (laT b)) 12 2 (aw1 (dM (chs f_seed1 chV m.toNat s) (laT b)) 11 1 (aw1 (dM (chs f_seed1 chV m.toNat s) (laT b)) 10 0 (0)))))))) ∧ y_in yG h' ∧ gi h' = (dM (chs f_seed1 chV m.toNat s) (laT b)) ∧ y_get h' 55 25 = some (.long (f_itr f_seed1 m.toNat s))) := by
    have hL : f_L (lv_args 0 [.ref 55, fi m]) [(0, .ref 55), (1, fi (m))] := f_L_of rfl
    generalize lv_args 0 [.ref 55, fi m] = L at hL
    refine f_iln 1 rfl hL rfl ?_
    refine f_i2l rfl (by omega) ?_
    refine f_s [fl (1), fl (m)] rfl rfl ?_
    refine f_ldc2 (30) rfl rfl ?_
    refine f_k1 (f15 hc m 1 30 (by omega) (by omega) (by omega)) rfl rfl rfl rfl rfl ?_
    refine f_if rfl (by split <;> omega) (fun c1 => ?_) (fun c1 => ?_)
    · have c1 : ¬ (if 1 ≤ m ∧ m ≤ 30 then 1 else 0 : Int) = (0 : Int) := c1
      obtain ⟨fs, q⟩ := g_55 hin
      obtain ⟨hc1, a4, -, m1_⟩ := t141 (m := b) hc (y_win hin) hm
      obtain ⟨a2, u1⟩ := f_Mu (R := ev_r141) rfl yc141_0 hin (f_args_c f_rAr f_args_n) a4
      refine f_aln 0 rfl hL rfl ?_
      refine f_k0 a4 rfl rfl rfl (f_ar_v q rfl) rfl ?_
      refine f_s [fi (0)] rfl rfl ?_
      refine f_istn [(2, fi (0)), (0, .ref 55), (1, fi (m))] rfl (by decide) hL rfl (fun L1 hL1 => ?_)
      exact f190n_loop hr.1 hr.2 m.toNat 0 s a (laT b) hc1 _ (by decide) (by omega) hW a2 m1_ (by rw [u1 55 25 (f_nc_ok (by decide))]; exact hg) (hL1.sel [0, 1, 2] rfl)
    · have c1 : ¬ (¬ (if 1 ≤ m ∧ m ≤ 30 then 1 else 0 : Int) = (0 : Int)) := c1
      exact absurd hr (fun _ => by rw [if_pos hr] at c1; exact c1 (by decide))
  obtain ⟨n, r, h', e, rfl, e2, e3, e4⟩ := key
  exact ⟨h', fun R hR => by cases hR; exact ⟨n, e⟩, e2, e3, e4⟩
theorem f190_out {hc : ev_H} {m : Int} (rm : -2147483648 ≤ m ∧ m ≤ 2147483647) (hr : ¬ (1 ≤ m ∧ m ≤ 30)) : f_M 190 [.ref 55, fi m] hc (some (fi (-2))) hc := f_M_of (R := ev_r190) rfl (by
  have hL : f_L (lv_args 0 [.ref 55, fi m]) [(0, .ref 55), (1, fi (m))] := f_L_of rfl
  generalize lv_args 0 [.ref 55, fi m] = L at hL
  show x_W none (1, 0, 5, 1, 11, 4, 91, 0, 0, ev_t190) 0 L [] hc 0 0 _
  refine f_iln 1 rfl hL rfl ?_
  refine f_i2l rfl (by omega) ?_
  refine f_s [fl (1), fl (m)] rfl rfl ?_
  refine f_ldc2 (30) rfl rfl ?_
  refine f_k1 (f15 hc m 1 30 (by omega) (by omega) (by omega)) rfl rfl rfl rfl rfl ?_
  refine f_if rfl (by split <;> omega) (fun c1 => ?_) (fun c1 => ?_)
  · have c1 : ¬ (if 1 ≤ m ∧ m ≤ 30 then 1 else 0 : Int) = (0 : Int) := c1
    exact absurd (if_neg hr) c1
  · have c1 : ¬ (¬ (if 1 ≤ m ∧ m ≤ 30 then 1 else 0 : Int) = (0 : Int)) := c1
    refine f_bipush (n := -2) rfl (by decide) ?_
    exact f_ret1 rfl ⟨rfl, rfl⟩)
/-- both seeds are alike -/
def SD (hc : ev_H) : Prop := ∃ s : Int64, y_get hc 0 11 = some (.long s) ∧ y_get hc 55 25 = some (.long s)
theorem SD_keep {hc hc1 hc2 : ev_H} {m1 m2 : yMd} (n1 : f_nc m1 0 11 = true) (n2 : f_nc m1 55 25 = true) (n3 : f_nc m2 0 11 = true) (n4 : f_nc m2 55 25 = true) (u1 : y_un m1 hc hc1) (u2 : y_un m2 hc1 hc2) (h : SD hc) : SD hc2 := by
  obtain ⟨s, e1, e2⟩ := h
  exact ⟨s, by rw [u2 0 11 (f_nc_ok n3), u1 0 11 (f_nc_ok n1)]; exact e1, by rw [u2 55 25 (f_nc_ok n4), u1 55 25 (f_nc_ok n2)]; exact e2⟩
theorem SD_seed {hc : ev_H} (hin : y_in yG hc) (hS : SD hc) (v : Int64) : ∃ rr hc1 fs1 hc2, (-9223372036854775808 ≤ rr ∧ rr ≤ 9223372036854775807) ∧ f_M 185 [.ref 0, .long v] hc (some (fl rr)) hc1 ∧ hc1[55]? = some (.inr (.inr (10, fs1))) ∧ f_M 186 [.ref 55, .long v] hc1 (some (fl rr)) hc2 ∧ y_in yG hc2 ∧ SD hc2 ∧ y_un yct185_0.2.2 hc hc1 ∧ y_un yct186_0.2.2 hc1 hc2 := by
  obtain ⟨s, e1, e2⟩ := hS
  obtain ⟨gs, q0⟩ := g_0 hin
  have g0 : gs[11]? = some (.long s) := by rw [f_get_o q0] at e1; exact e1
  have hM1 := f185 q0 (v := v) g0
  obtain ⟨hin1, hun1⟩ := f_Mu (R := ev_r185) rfl yc185_0 hin (f_args_c f_rAr (f_args_c f_rAl f_args_n)) hM1
  obtain ⟨fs1, q55⟩ := g_55 hin1
  have e2' := e2
  rw [← hun1 55 25 (f_nc_ok (by decide)), f_get_o q55] at e2'
  have hM2 := f186 q55 (v := v) e2'
  obtain ⟨hin2, hun2⟩ := f_Mu (R := ev_r186) rfl yc186_0 hin1 (f_args_c f_rAr (f_args_c f_rAl f_args_n)) hM2
  have es : fl s.toInt = .long s := by show Value.long (Int64.ofInt s.toInt) = _; rw [Int64.ofInt_toInt]
  refine ⟨s.toInt, _, fs1, _, ⟨s.le_toInt, by have := s.toInt_lt; omega⟩, by rw [es]; exact hM1, q55, by rw [es]; exact hM2, hin2, ⟨v, ?_, ?_⟩, hun1, hun2⟩
  · rw [hun2 0 11 (f_nc_ok (by decide)), f_get_o (f_set_eq q0), List.getElem?_set_self (List.getElem?_eq_some_iff.mp g0).1]
  · rw [f_get_o (f_set_eq q55), List.getElem?_set_self (List.getElem?_eq_some_iff.mp e2').1]
theorem SD_days {hc : ev_H} (hin : y_in yG hc) (hI : SI (gi hc)) (hS : SD hc) {x : Int} (rx : -2147483648 ≤ x ∧ x ≤ 2147483647) : ∃ rr hc1 fs1 hc2, (-2147483648 ≤ rr ∧ rr ≤ 2147483647) ∧ f_M 188 [.ref 0, fi x] hc (some (fi rr)) hc1 ∧ hc1[55]? = some (.inr (.inr (10, fs1))) ∧ f_M 190 [.ref 55, fi x] hc1 (some (fi rr)) hc2 ∧ y_in yG hc2 ∧ SD hc2 ∧ y_un yct188_0.2.2 hc hc1 ∧ y_un yct190_0.2.2 hc1 hc2 := by
  obtain ⟨s, e1, e2⟩ := hS
  obtain ⟨hP, hR, -, -⟩ := hI
  by_cases hr : 1 ≤ x ∧ x ≤ 30
  · obtain ⟨l, el⟩ : ∃ l, l = chs f_seed1 chV x.toNat s := ⟨_, rfl⟩
    obtain ⟨hc1, hM1, hin1, m1_, k1⟩ := f188_in hin rfl hP.2.1.1 hP.2.1.2 e1 hr
    obtain ⟨-, hun1⟩ := f_Mu (R := ev_r188) rfl yc188_0 hin (f_args_c f_rAr (f_args_c f_rAi f_args_n)) hM1
    obtain ⟨fs1, q55⟩ := g_55 hin1
    rw [← el] at hM1 m1_
    have rc : ∀ v ∈ l, 0 ≤ v ∧ v ≤ 29 := by rw [el]; exact chs_r chV_r x.toNat s
    have r0 : ∀ v ∈ l, 0 ≤ v := fun v hv => (rc v hv).1
    obtain ⟨A, eA⟩ : ∃ A, A = dC l (cpC (gi hc)) 0 := ⟨_, rfl⟩
    rw [← eA] at hM1 m1_
    have ho : ∀ q i, 55 ≤ q → A.1 q i = gi hc q i := fun q i hq => by rw [eA, dC_o _ _ _ (by omega), cpC_o _ (by omega)]
    have hW := SW_0 (m' := A.1) hP hR ho
    obtain ⟨hc2, hM2, hin2, m2_, k2⟩ := f190_in hin1 m1_ hW (s := s) (by rw [hun1 55 25 (f_nc_ok (by decide))]; exact e2) hr
    obtain ⟨-, hun2⟩ := f_Mu (R := ev_r190) rfl yc190_0 hin1 (f_args_c f_rAr (f_args_c f_rAi f_args_n)) hM2
    rw [← el] at hM2
    have hE : SW A.1 (dM l (laT A.1)) := by
      have := SW_days l rc (cpC (gi hc)) (laT A.1) 0 hW.1 hW.2
      rw [← eA] at this
      exact this
    have hU : Int32.ofInt (Us A.1) = Int32.ofInt (Us (cpC (gi hc)) + A.2 - 0) := by
      have := dC_U l (cpC (gi hc)) 0
      rw [← eA] at this
      exact this
    have n6 : A.1 3 6 = gi hc 3 6 := by rw [eA, dC_o _ _ _ (by omega), cpC_o _ (by omega)]
    obtain ⟨X, eX⟩ : ∃ X, X = dM l (laT A.1) := ⟨_, rfl⟩
    have eP : X 55 1 = gi hc 3 6 := by
      rw [eX, dM_o l _ r0 (by omega), laT_o _ (by omega), ho 55 1 (by decide)]
      exact hP.1.2.symm
    rw [← eX] at hE hM2
    have aw1_ : aw1 X 32 4 (aw1 X 31 3 (aw1 X 30 2 (aw1 X 29 1 (aw1 X 28 0 0)))) = A.1 16 0 + A.1 16 1 + A.1 16 2 + A.1 16 3 + A.1 16 4 := aw_s (B := 28) (c := fun i => A.1 16 i) eP (fun i hi hp => (hE.1 i hi (by rw [n6]; exact hp)).2.2) (fun i hi hp => (hE.2.2.2 i hi (by rw [n6]; exact hp)).2)
    have aw0_ : aw1 X 14 4 (aw1 X 13 3 (aw1 X 12 2 (aw1 X 11 1 (aw1 X 10 0 0)))) = gi hc 12 0 + gi hc 12 1 + gi hc 12 2 + gi hc 12 3 + gi hc 12 4 := aw_s (B := 10) (c := fun i => gi hc 12 i) eP (fun i hi hp => by
      show gi hc 12 i = X 61 (10 + i)
      rw [eX, dM_o l _ r0 (by omega), laT_o _ (by omega), ho 61 _ (by decide)]
      exact (hR.w hi hp).2.2) (fun i hi hp => (hR.o hi hp).2)
    have eU : Us (cpC (gi hc)) = gi hc 12 0 + gi hc 12 1 + gi hc 12 2 + gi hc 12 3 + gi hc 12 4 := by
      unfold Us
      rw [(cpC_w (gi hc) (i := 0) (by decide)).2.2, (cpC_w (gi hc) (i := 1) (by decide)).2.2, (cpC_w (gi hc) (i := 2) (by decide)).2.2, (cpC_w (gi hc) (i := 3) (by decide)).2.2, (cpC_w (gi hc) (i := 4) (by decide)).2.2]
    have hM2 : f_M 190 [.ref 55, fi x] hc1 (some (fi ((A.1 16 0 + A.1 16 1 + A.1 16 2 + A.1 16 3 + A.1 16 4) - (gi hc 12 0 + gi hc 12 1 + gi hc 12 2 + gi hc 12 3 + gi hc 12 4)))) hc2 := by
      rw [← aw1_, ← aw0_]
      exact hM2
    have eq_ : fi A.2 = fi ((A.1 16 0 + A.1 16 1 + A.1 16 2 + A.1 16 3 + A.1 16 4) - (gi hc 12 0 + gi hc 12 1 + gi hc 12 2 + gi hc 12 3 + gi hc 12 4)) := by
      rw [← eU]
      show Value.int (Int32.ofInt A.2) = Value.int (Int32.ofInt (Us A.1 - Us (cpC (gi hc))))
      rw [show Us A.1 - Us (cpC (gi hc)) = Us A.1 + (- Us (cpC (gi hc))) by omega, Int32.ofInt_add, hU, ← Int32.ofInt_add]
      congr 2
      omega
    obtain ⟨rr, r1, er⟩ := g_i32 (z := A.2)
    rw [er] at hM1 eq_
    rw [← eq_] at hM2
    exact ⟨rr, hc1, fs1, hc2, r1, hM1, q55, hM2, hin2, ⟨_, by rw [hun2 0 11 (f_nc_ok (by decide))]; exact k1, k2⟩, hun1, hun2⟩
  · have hM1 := f188_out (hc := hc) rx hr
    obtain ⟨-, hun1⟩ := f_Mu (R := ev_r188) rfl yc188_0 hin (f_args_c f_rAr (f_args_c f_rAi f_args_n)) hM1
    obtain ⟨fs1, q55⟩ := g_55 hin
    have hM2 := f190_out (hc := hc) rx hr
    obtain ⟨-, hun2⟩ := f_Mu (R := ev_r190) rfl yc190_0 hin (f_args_c f_rAr (f_args_c f_rAi f_args_n)) hM2
    exact ⟨-2, hc, fs1, hc, by decide, hM1, q55, hM2, hin, ⟨s, e1, e2⟩, hun1, hun2⟩
