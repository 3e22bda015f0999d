/-! longs kept, the seed: seed and days of both -/
def f_up2 (l : List (Nat × Value)) (k : Nat) (v : Value) : List (Nat × Value) := (k, v) :: l.filter (fun q => !(q.1 == k) && (!(q.1 == k + 1) && !(q.1 + 1 == k && q.2.category == 2)))
theorem f_L.st2 {L : ev_L} {l : List (Nat × Value)} (h : f_L L l) (k : Nat) (v : Value) : f_L (ev_s2 L k v) (f_up2 l k v) := by
  intro e he
  unfold f_up2 at he
  rcases List.mem_cons.mp he with rfl | he
  · exact x_lk_h
  · obtain ⟨h1, h2⟩ := List.mem_filter.mp he
    have hk : k ≠ e.1 := fun z => by
      rw [← z] at h2
      simp at h2
    unfold ev_s2
    rw [x_lk_c hk]
    exact x_lk_g (h e h1) h2
section FLG
variable {sc : Option (List Int32)} {rt ini mx na rc fr lo mc ms : Nat} {t : ev_T} {pc : Nat} {Lc : ev_L} {stc : List Value} {hc : ev_H} {kc ks : Nat} {Q : Option Value → ev_H → Prop}
variable {pp0 a b pp : Nat} {i : Instr} {v : Value} {l : List (Nat × Value)}
theorem f_lstn {k : Fin 4} {x : Int64} (l' : List (Nat × Value)) (hf : ev_f t pc = some (pp0, .lstore_n k, a, b, pp, v)) (hk : k.val + 1 < mx) (hL : f_L Lc l) (hl : f_up2 l k.val (.long x) = l') (h : ∀ L', f_L L' l' → x_W sc (rt, ini, mx, na, rc, fr, lo, mc, ms, t) (pc + 1) L' stc hc kc ks Q) : x_W sc (rt, ini, mx, na, rc, fr, lo, mc, ms, t) pc Lc (.long x :: stc) hc kc ks Q :=
  x_W_l hf (st' := stc) (L' := ev_s2 Lc k.val (.long x)) (by unfold ev_l; dsimp only; rw [if_pos hk]) (h _ (by rw [← hl]; exact hL.st2 _ _))
theorem f_lret {x : Int64} (hf : ev_f t pc = some (pp0, .lreturn, a, b, pp, v)) (h : Q (some (.long x)) hc) : x_W sc (4, ini, mx, na, rc, fr, lo, mc, ms, t) pc Lc [.long x] hc kc ks Q := x_W_r hf (r := some (.long x)) rfl h
theorem f_ldc2r {k : Nat} {x : Int64} (hf : ev_f t pc = some (pp0, .ldc2_w k, a, b, pp, .long x)) (h : x_W sc (rt, ini, mx, na, rc, fr, lo, mc, ms, t) (pc + 3) Lc (.long x :: stc) hc kc ks Q) : x_W sc (rt, ini, mx, na, rc, fr, lo, mc, ms, t) pc Lc stc hc kc ks Q := x_W_s hf (st' := .long x :: stc) rfl h
theorem f_lrem {x y : Int64} (hf : ev_f t pc = some (pp0, .lrem, a, b, pp, v)) (hy : ¬ y = 0) (h : x_W sc (rt, ini, mx, na, rc, fr, lo, mc, ms, t) (pc + 1) Lc (.long (x - x / y * y) :: stc) hc kc ks Q) : x_W sc (rt, ini, mx, na, rc, fr, lo, mc, ms, t) pc Lc (.long y :: .long x :: stc) hc kc ks Q := x_W_s hf (st' := .long (x - x / y * y) :: stc) (by
  show (if y = 0 then none else some (Value.long (x - x / y * y) :: stc)) = _
  rw [if_neg hy]) h
theorem f_lmul {x y : Int64} (hf : ev_f t pc = some (pp0, .lmul, a, b, pp, v)) (h : x_W sc (rt, ini, mx, na, rc, fr, lo, mc, ms, t) (pc + 1) Lc (.long (x * y) :: stc) hc kc ks Q) : x_W sc (rt, ini, mx, na, rc, fr, lo, mc, ms, t) pc Lc (.long y :: .long x :: stc) hc kc ks Q := x_W_s hf (st' := .long (x * y) :: stc) rfl h
theorem f_ladd {x y : Int64} (hf : ev_f t pc = some (pp0, .ladd, a, b, pp, v)) (h : x_W sc (rt, ini, mx, na, rc, fr, lo, mc, ms, t) (pc + 1) Lc (.long (x + y) :: stc) hc kc ks Q) : x_W sc (rt, ini, mx, na, rc, fr, lo, mc, ms, t) pc Lc (.long y :: .long x :: stc) hc kc ks Q := x_W_s hf (st' := .long (x + y) :: stc) rfl h
theorem f_lushr {x : Int64} {y : Int32} (hf : ev_f t pc = some (pp0, .lushr, a, b, pp, v)) (h : x_W sc (rt, ini, mx, na, rc, fr, lo, mc, ms, t) (pc + 1) Lc (.long (x_lushr x y) :: stc) hc kc ks Q) : x_W sc (rt, ini, mx, na, rc, fr, lo, mc, ms, t) pc Lc (.int y :: .long x :: stc) hc kc ks Q := x_W_s hf (st' := .long (x_lushr x y) :: stc) rfl h
theorem f_l2i {x : Int64} (hf : ev_f t pc = some (pp0, .l2i, a, b, pp, v)) (h : x_W sc (rt, ini, mx, na, rc, fr, lo, mc, ms, t) (pc + 1) Lc (.int x.toInt32 :: stc) hc kc ks Q) : x_W sc (rt, ini, mx, na, rc, fr, lo, mc, ms, t) pc Lc (.long x :: stc) hc kc ks Q := x_W_s hf (st' := .int x.toInt32 :: stc) rfl h
end FLG
theorem f_cmp_self {x : Int} : f_cmp x x = 0 := by unfold f_cmp; rw [if_neg (by omega), if_pos rfl]
/-- a field written keeps the ranges -/
theorem f_in_setf {hc : ev_H} (hin : y_in yG hc) {q c k : Nat} {fs : List Value} {cy : yC} {f : yF} {w : Value} (hq : hc[q]? = some (.inr (.inr (c, fs)))) (hy : x_g yG q = some cy) (h2 : cy.1 = 2) (hk : x_g cy.2.2.2 k = some f) (hw : y_rF f w) : y_in yG (hc.set q (.inr (.inr (c, fs.set k w)))) := by
  refine y_in_set hin (fun c' hc' => ?_) (List.getElem?_eq_some_iff.mp hq).1
  rw [hy] at hc'
  cases hc'
  obtain ⟨cc, h1, h3⟩ := hin q cy hy
  rw [hq] at h1
  cases h1
  obtain ⟨y1, y2, y3, y4⟩ := cy
  have h2 : y1 = 2 := h2
  subst h2
  obtain ⟨fs', e1, e2⟩ := h3
  cases e1
  refine ⟨fs.set k w, rfl, fun i g hg => ?_⟩
  obtain ⟨v, v1, v2⟩ := e2 i g hg
  by_cases hi : k = i
  · subst hi
    rw [hk] at hg
    cases hg
    exact ⟨w, by rw [List.getElem?_set_self (List.getElem?_eq_some_iff.mp v1).1], hw⟩
  · exact ⟨v, by rw [List.getElem?_set_ne hi]; exact v1, v2⟩
def f_seed1 (s : Int64) : Int64 := s * 6364136223846793005 + 1442695040888963407
noncomputable def f_itr {α : Type} (f : α → α) (n : Nat) : α → α := Nat.rec (motive := fun _ => α → α) (fun s => s) (fun _ ih s => ih (f s)) n
theorem f_itr_s {α : Type} (f : α → α) (n : Nat) (s : α) : f_itr f (n + 1) s = f_itr f n (f s) := rfl
theorem f_itr_0 {α : Type} (f : α → α) (s : α) : f_itr f 0 s = s := rfl
def f_chance (s : Int64) : Int64 := x_lushr s (Int32.ofInt 33) - x_lushr s (Int32.ofInt 33) / 30 * 30
theorem f_chance_r (s : Int64) : ∃ v : Int, 0 ≤ v ∧ v ≤ 29 ∧ (f_chance s).toInt32 = Int32.ofInt v := by
  have e33 : Int32.ofInt 33 = 33 := by decide
  unfold f_chance
  rw [e33]
  obtain ⟨u1, u2⟩ := y_ushr (x := s)
  have e : x_lushr s 33 = Int64.ofInt (x_lushr s 33).toInt := (Int64.ofInt_toInt _).symm
  generalize (x_lushr s 33).toInt = u at u1 u2 e
  rw [e]
  have e30 : (30 : Int64) = Int64.ofInt 30 := rfl
  rw [e30, ← Int64.ofInt_tdiv (by show (-9223372036854775808 : Int) ≤ _; omega) (by show _ ≤ (9223372036854775807 : Int); omega) (by decide) (by decide), ← Int64.ofInt_mul, ← Int64.ofInt_sub, Int64.toInt32_ofInt]
  refine ⟨u - u.tdiv 30 * 30, ?_, ?_, rfl⟩ <;> rw [Int.tdiv_eq_ediv_of_nonneg u1] <;> omega
theorem f185 {hc : ev_H} {fs : List Value} (q : hc[0]? = some (.inr (.inr (9, fs)))) {s v : Int64} (g : fs[11]? = some (.long s)) : f_M 185 [.ref 0, .long v] hc (some (.long s)) (hc.set 0 (.inr (.inr (9, fs.set 11 (.long v))))) := f_M_of (R := ev_r185) rfl (by
  have hL : f_L (lv_args 0 [.ref 0, .long v]) [(0, .ref 0), (1, .long v)] := f_L_of rfl
  generalize lv_args 0 [.ref 0, .long v] = L at hL
  show x_W none (4, 0, 5, 1, 10, 0, 0, 0, 0, ev_t185) 0 L [] hc 0 0 _
  refine f_aln 0 rfl hL rfl ?_
  refine f_gf rfl q g ?_
  refine f_lstn [(3, .long s), (0, .ref 0), (1, .long v)] rfl (by decide) hL rfl (fun L1 hL1 => ?_)
  refine f_aln 1 rfl hL1 rfl ?_
  refine f_lln 2 rfl hL1 rfl ?_
  refine f_pf rfl q (List.getElem?_eq_some_iff.mp g).1 rfl ?_
  refine f_lln 0 rfl hL1 rfl ?_
  exact f_lret rfl ⟨rfl, rfl⟩)
theorem f186 {hc : ev_H} {fs : List Value} (q : hc[55]? = some (.inr (.inr (10, fs)))) {s v : Int64} (g : fs[25]? = some (.long s)) : f_M 186 [.ref 55, .long v] hc (some (.long s)) (hc.set 55 (.inr (.inr (10, fs.set 25 (.long v))))) := f_M_of (R := ev_r186) rfl (by
  have hL : f_L (lv_args 0 [.ref 55, .long v]) [(0, .ref 55), (1, .long v)] := f_L_of rfl
  generalize lv_args 0 [.ref 55, .long v] = L at hL
  show x_W none (4, 0, 5, 1, 11, 0, 0, 0, 0, ev_t186) 0 L [] hc 0 0 _
  refine f_aln 0 rfl hL rfl ?_
  refine f_gf rfl q g ?_
  refine f_lstn [(3, .long s), (0, .ref 55), (1, .long v)] rfl (by decide) hL rfl (fun L1 hL1 => ?_)
  refine f_aln 1 rfl hL1 rfl ?_
  refine f_lln 2 rfl hL1 rfl ?_
  refine f_pf rfl q (List.getElem?_eq_some_iff.mp g).1 rfl ?_
  refine f_lln 0 rfl hL1 rfl ?_
  exact f_lret rfl ⟨rfl, rfl⟩)
theorem g_o0 {hc : ev_H} (h : y_in yG hc) : ∃ fs, hc[0]? = some (.inr (.inr (9, fs))) ∧ fs[3]? = some (.ref 13) ∧ fs[2]? = some (.ref 9) ∧ fs[1]? = some (.ref 3) ∧ ∃ s : Int64, fs[11]? = some (.long s) := by
  obtain ⟨cc, hq, fs, rfl, hf⟩ := h 0 _ rfl
  obtain ⟨v3, w3, k3⟩ := hf 3 _ rfl
  obtain ⟨v2, w2, k2⟩ := hf 2 _ rfl
  obtain ⟨v1, w1, k1⟩ := hf 1 _ rfl
  obtain ⟨v11, w11, z, k11, -⟩ := hf 11 _ rfl
  have k3 : v3 = .ref 13 := k3
  have k2 : v2 = .ref 9 := k2
  have k1 : v1 = .ref 3 := k1
  subst k3
  subst k2
  subst k1
  subst k11
  exact ⟨fs, hq, w3, w2, w1, z, w11⟩
theorem g_o13 {hc : ev_H} (h : y_in yG hc) : ∃ fs, hc[13]? = some (.inr (.inr (6, fs))) := by
  obtain ⟨cc, hq, fs, rfl, -⟩ := h 13 _ rfl
  exact ⟨fs, hq⟩
theorem f188_loop {m : Int} (m1 : 1 ≤ m) (m2 : m ≤ 30) : ∀ (n : Nat) (d : Int) (su : Int32) (s : Int64) (hc : ev_H) (L : ev_L), 0 ≤ d → d ≤ m → (m - d).toNat ≤ n → y_in yG hc → y_get hc 0 11 = some (.long s) → f_L L [(3, fi (d)), (2, .int su), (0, .ref 0), (1, fi (m))] → x_W none (1, 0, 4, 1, 10, 6, 132, 0, 0, ev_t188) 29 L [] hc 0 0 (fun r h' => (∃ w : Int32, r = some (.int w)) ∧ y_in yG h' ∧ y_get h' 0 11 = some (.long (f_itr f_seed1 (m - d).toNat s))) := by
  intro n
  induction n with
  | zero =>
    intro d su s hc L d1 d2 hn hin hg hL
    refine f_iln 0 rfl hL rfl ?_
    refine f_iln 3 rfl hL rfl ?_
    refine f_ic rfl (by omega) (by omega) (fun c0 => ?_) (fun c => absurd (show m ≤ d by omega) c)
    have c0 : (m : Int) ≤ (d : Int) := c0
    refine f_iln 1 rfl hL rfl ?_
    exact f_ret1 rfl ⟨⟨_, rfl⟩, hin, by rw [show (m - d).toNat = 0 by omega, f_itr_0]; exact hg⟩
  | succ n ih =>
    intro d su s hc L d1 d2 hn hin hg hL
    obtain ⟨fs, q, -, -, -, s', g⟩ := g_o0 hin
    have es : s = s' := by rw [f_get_o q, g] at hg; cases hg; rfl
    subst es
    refine f_iln 0 rfl hL rfl ?_
    refine f_iln 3 rfl hL rfl ?_
    refine f_ic rfl (by omega) (by omega) (fun c0 => ?_) (fun c0 => ?_)
    · have c0 : (m : Int) ≤ (d : Int) := c0
      refine f_iln 1 rfl hL rfl ?_
      exact f_ret1 rfl ⟨⟨_, rfl⟩, hin, by rw [show (m - d).toNat = 0 by omega, f_itr_0]; exact hg⟩
    · have c0 : ¬ ((m : Int) ≤ (d : Int)) := c0
      refine f_aln 2 rfl hL rfl ?_
      refine f_aln 2 rfl hL rfl ?_
      refine f_gf rfl q g ?_
      refine f_ldc2r rfl ?_
      refine f_lmul rfl ?_
      refine f_ldc2r rfl ?_
      refine f_ladd rfl ?_
      rw [show s * 6364136223846793005 + 1442695040888963407 = f_seed1 s from rfl]
      refine f_pf rfl q (List.getElem?_eq_some_iff.mp g).1 rfl ?_
      have hin1 := f_in_setf hin (k := 11) (w := .long (f_seed1 s)) q rfl rfl rfl f_rAl
      have q1 := f_set_eq (c := .inr (.inr (9, fs.set 11 (.long (f_seed1 s))))) q
      have g1 : (fs.set 11 (.long (f_seed1 s)))[11]? = some (.long (f_seed1 s)) := by rw [List.getElem?_set_self (List.getElem?_eq_some_iff.mp g).1]
      generalize hc.set 0 (.inr (.inr (9, fs.set 11 (.long (f_seed1 s))))) = hc1 at hin1 q1
      refine f_aln 2 rfl hL rfl ?_
      refine f_aln 2 rfl hL rfl ?_
      refine f_gf rfl q1 g1 ?_
      refine f_bipush (n := 33) rfl (by decide) ?_
      refine f_lushr rfl ?_
      refine f_ldc2r rfl ?_
      refine f_lrem rfl (by decide) ?_
      refine f_l2i rfl ?_
      rw [show x_lushr (f_seed1 s) (Int32.ofInt 33) - x_lushr (f_seed1 s) (Int32.ofInt 33) / 30 * 30 = f_chance (f_seed1 s) from rfl]
      obtain ⟨r2, hc2, a1, a2, a3, a4⟩ := f_Mc (R := ev_r187) rfl yc187_0 hin1 (as := [.ref 0, .int (f_chance (f_seed1 s)).toInt32]) (f_args_c f_rAr (f_args_c f_rAi f_args_n))
      have a1 : r2 = none := a1
      subst a1
      refine f_k0 a4 rfl rfl rfl (f_ar_v q1 rfl) rfl ?_
      obtain ⟨fs2, q2, g2⟩ := g_o0 a2
      refine f_iln 1 rfl hL rfl ?_
      refine f_aln 2 rfl hL rfl ?_
      refine f_gf rfl q2 g2.1 ?_
      obtain ⟨r3, hc3, b1, b2, b3, b4⟩ := f_Mc (R := ev_r88) rfl yc88_1 a2 (as := [.ref 13]) (f_args_c f_rAr f_args_n)
      obtain ⟨w3, rfl⟩ := f_reti (show y_ret (some (0, _)) r3 from b1)
      obtain ⟨fs13, q13⟩ := g_o13 a2
      refine f_k1 b4 rfl rfl rfl (f_ar_v q13 rfl) rfl ?_
      refine f_s [.int (su + w3)] rfl rfl ?_
      refine f_istn [(2, .int (su + w3)), (3, fi (d)), (0, .ref 0), (1, fi (m))] rfl (by decide) hL rfl (fun L1 hL1 => ?_)
      refine f_inc 1 [(3, fi (d + 1)), (2, .int (su + w3)), (0, .ref 0), (1, fi (m))] rfl (by decide) hL1 rfl rfl (fun L2 hL2 => ?_)
      refine f_goto rfl ?_
      have e1 : y_get hc3 0 11 = some (.long (f_seed1 s)) := by rw [b3 0 11 (f_nc_ok (by decide)), a3 0 11 (f_nc_ok (by decide)), f_get_o q1]; exact g1
      have := ih (d + 1) (su + w3) (f_seed1 s) hc3 _ (by omega) (by omega) (by omega) b2 e1 (hL2.sel [0, 1, 2, 3] rfl)
      have e2 : (m - d).toNat = (m - (d + 1)).toNat + 1 := by omega
      rw [e2, f_itr_s]
      exact this
theorem f188 {hc : ev_H} (hin : y_in yG hc) {s : Int64} (hg : y_get hc 0 11 = some (.long s)) {m : Int} (rm : -2147483648 ≤ m ∧ m ≤ 2147483647) : ∃ w hc', f_M 188 [.ref 0, fi m] hc (some (.int w)) hc' ∧ y_in yG hc' ∧ y_get hc' 0 11 = some (.long (if 1 ≤ m ∧ m ≤ 30 then f_itr f_seed1 m.toNat s else s)) := by
  have key : x_W none (1, 0, 4, 1, 10, 6, 132, 0, 0, ev_t188) 0 (lv_args 0 [.ref 0, fi m]) [] hc 0 0 (fun r h' => (∃ w : Int32, r = some (.int w)) ∧ y_in yG h' ∧ y_get h' 0 11 = some (.long (if 1 ≤ m ∧ m ≤ 30 then f_itr f_seed1 m.toNat s else s))) := by
    have hL : f_L (lv_args 0 [.ref 0, fi m]) [(0, .ref 0), (1, fi (m))] := f_L_of rfl
    generalize lv_args 0 [.ref 0, fi m] = L at hL
    refine f_iln 1 rfl hL rfl ?_
    refine f_s [fi (1), fi (m)] rfl rfl ?_
    refine f_ic rfl (by omega) (by omega) (fun c1 => ?_) (fun c1 => ?_)
    · have c1 : (m : Int) < (1 : Int) := c1
      refine f_bipush (n := -2) rfl (by decide) ?_
      exact f_ret1 rfl ⟨⟨_, rfl⟩, hin, by rw [if_neg (by omega)]; exact hg⟩
    · have c1 : ¬ ((m : Int) < (1 : Int)) := c1
      refine f_iln 1 rfl hL rfl ?_
      refine f_bipush (n := 30) rfl (by decide) ?_
      refine f_ic rfl (by omega) (by omega) (fun c2 => ?_) (fun c2 => ?_)
      · have c2 : (m : Int) ≤ (30 : Int) := c2
        obtain ⟨fs, q, g3, g2, -, -⟩ := g_o0 hin
        refine f_aln 0 rfl hL rfl ?_
        refine f_gf rfl q g3 ?_
        refine f_aln 0 rfl hL rfl ?_
        refine f_gf rfl q g2 ?_
        obtain ⟨r1, hc1, a1, a2, a3, a4⟩ := f_Mc (R := ev_r136) rfl yc136_0 hin (as := [.ref 13, .ref 9]) (f_args_c f_rAr (f_args_c f_rAr f_args_n))
        have a1 : r1 = none := a1
        subst a1
        obtain ⟨fs13, q13⟩ := g_o13 hin
        refine f_k0 a4 rfl rfl rfl (f_ar_v q13 rfl) rfl ?_
        refine f_s [fi (0)] rfl rfl ?_
        refine f_istn [(2, fi (0)), (0, .ref 0), (1, fi (m))] rfl (by decide) hL rfl (fun L1 hL1 => ?_)
        refine f_s [fi (0)] rfl rfl ?_
        refine f_istn [(3, fi (0)), (2, fi (0)), (0, .ref 0), (1, fi (m))] rfl (by decide) hL1 rfl (fun L2 hL2 => ?_)
        rw [if_pos (show 1 ≤ m ∧ m ≤ 30 by omega)]
        have := f188_loop (m := m) (by omega) c2 m.toNat 0 0 s hc1 _ (by omega) (by omega) (by omega) a2 (by rw [a3 0 11 (f_nc_ok (by decide))]; exact hg) (hL2.sel [0, 1, 2, 3] rfl)
        rw [Int.sub_zero] at this
        exact this
      · have c2 : ¬ ((m : Int) ≤ (30 : Int)) := c2
        refine f_bipush (n := -2) rfl (by decide) ?_
        exact f_ret1 rfl ⟨⟨_, rfl⟩, hin, by rw [if_neg (by omega)]; exact hg⟩
  obtain ⟨n, r, h', e, ⟨w, rfl⟩, e2, e3⟩ := key
  exact ⟨w, h', fun R hR => by cases hR; exact ⟨n, e⟩, e2, e3⟩
theorem g_np {hc : ev_H} (h : y_in yG hc) : ∃ fs, hc[55]? = some (.inr (.inr (10, fs))) ∧ ∃ nm pp : Int, fs[0]? = some (fi nm) ∧ fs[1]? = some (fi pp) ∧ 0 ≤ nm ∧ nm ≤ 4 ∧ 0 ≤ pp ∧ pp ≤ 5 := by
  obtain ⟨cc, hq, fs, rfl, hf⟩ := h 55 _ rfl
  obtain ⟨v0, w0, k0⟩ := hf 0 _ rfl
  obtain ⟨v1, w1, k1⟩ := hf 1 _ rfl
  obtain ⟨nm, rfl, nm1, nm2⟩ := f_argi (v := v0) (lo := Int.ofNat 0) (hi := Int.ofNat 4) k0
  obtain ⟨pp, rfl, pp1, pp2⟩ := f_argi (v := v1) (lo := Int.ofNat 0) (hi := Int.ofNat 5) k1
  exact ⟨fs, hq, nm, pp, w0, w1, nm1, nm2, pp1, pp2⟩
set_option maxHeartbeats 1000000 in
theorem f190_loop {m : Int} (m1 : 1 ≤ m) (m2 : m ≤ 30) : ∀ (n : Nat) (k : Int) (s : Int64) (hc : ev_H) (L : ev_L), 0 ≤ k → k ≤ m → (m - k).toNat ≤ n → y_in yG hc → y_get hc 55 25 = some (.long s) → f_L L [(2, fi (k)), (0, .ref 55), (1, fi (m))] → x_W none (1, 0, 5, 1, 11, 4, 91, 0, 0, ev_t190) 21 L [] hc 0 0 (fun r h' => (∃ w : Int32, r = some (.int w)) ∧ y_in yG h' ∧ y_get h' 55 25 = some (.long (f_itr f_seed1 (m - k).toNat s))) := by
  intro n
  induction n with
  | zero =>
    intro k s hc L k1 k2 hn hin hg hL
    obtain ⟨fs, q⟩ := g_55 hin
    refine f_iln 0 rfl hL rfl ?_
    refine f_iln 2 rfl hL rfl ?_
    refine f_ic rfl (by omega) (by omega) (fun c0 => ?_) (fun c => absurd (show m ≤ k by omega) c)
    have c0 : (m : Int) ≤ (k : Int) := c0
    obtain ⟨r1, hc1, a1, a2, a3, a4⟩ := f_Mc (R := ev_r189) rfl yc189_0 hin (as := [.ref 55, fi 1]) (f_args_c f_rAr (f_args_c (f_rA (by decide) (by decide) (by decide) (by decide)) f_args_n))
    obtain ⟨u1, rfl⟩ := f_reti (show y_ret (some (0, _)) r1 from a1)
    obtain ⟨fs1, q1⟩ := g_55 a2
    obtain ⟨r2, hc2, b1, b2, b3, b4⟩ := f_Mc (R := ev_r189) rfl yc189_1 a2 (as := [.ref 55, fi 0]) (f_args_c f_rAr (f_args_c (f_rA (by decide) (by decide) (by decide) (by decide)) f_args_n))
    obtain ⟨u2, rfl⟩ := f_reti (show y_ret (some (0, _)) r2 from b1)
    refine f_aln 1 rfl hL rfl ?_
    refine f_s [fi (1), .ref 55] rfl rfl ?_
    refine f_k1 a4 rfl rfl rfl (f_ar_v q rfl) rfl ?_
    refine f_aln 1 rfl hL rfl ?_
    refine f_s [fi (0), .ref 55, .int u1] rfl rfl ?_
    refine f_k1 b4 rfl rfl rfl (f_ar_v q1 rfl) rfl ?_
    refine f_s [.int (u1 - u2)] rfl rfl ?_
    exact f_ret1 rfl ⟨⟨_, rfl⟩, b2, by rw [show (m - k).toNat = 0 by omega, f_itr_0, b3 55 25 (f_nc_ok (by decide)), a3 55 25 (f_nc_ok (by decide))]; exact hg⟩
  | succ n ih =>
    intro k s hc L k1 k2 hn hin hg hL
    obtain ⟨fs, q⟩ := g_55 hin
    have g : fs[25]? = some (.long s) := by rw [f_get_o q] at hg; exact hg
    refine f_iln 0 rfl hL rfl ?_
    refine f_iln 2 rfl hL rfl ?_
    refine f_ic rfl (by omega) (by omega) (fun c0 => ?_) (fun c0 => ?_)
    · have c0 : (m : Int) ≤ (k : Int) := c0
      obtain ⟨r1, hc1, a1, a2, a3, a4⟩ := f_Mc (R := ev_r189) rfl yc189_0 hin (as := [.ref 55, fi 1]) (f_args_c f_rAr (f_args_c (f_rA (by decide) (by decide) (by decide) (by decide)) f_args_n))
      obtain ⟨u1, rfl⟩ := f_reti (show y_ret (some (0, _)) r1 from a1)
      obtain ⟨fs1, q1⟩ := g_55 a2
      obtain ⟨r2, hc2, b1, b2, b3, b4⟩ := f_Mc (R := ev_r189) rfl yc189_1 a2 (as := [.ref 55, fi 0]) (f_args_c f_rAr (f_args_c (f_rA (by decide) (by decide) (by decide) (by decide)) f_args_n))
      obtain ⟨u2, rfl⟩ := f_reti (show y_ret (some (0, _)) r2 from b1)
      refine f_aln 1 rfl hL rfl ?_
      refine f_s [fi (1), .ref 55] rfl rfl ?_
      refine f_k1 a4 rfl rfl rfl (f_ar_v q rfl) rfl ?_
      refine f_aln 1 rfl hL rfl ?_
      refine f_s [fi (0), .ref 55, .int u1] rfl rfl ?_
      refine f_k1 b4 rfl rfl rfl (f_ar_v q1 rfl) rfl ?_
      refine f_s [.int (u1 - u2)] rfl rfl ?_
      exact f_ret1 rfl ⟨⟨_, rfl⟩, b2, by rw [show (m - k).toNat = 0 by omega, f_itr_0, b3 55 25 (f_nc_ok (by decide)), a3 55 25 (f_nc_ok (by decide))]; exact hg⟩
    · have c0 : ¬ ((m : Int) ≤ (k : Int)) := c0
      refine f_aln 1 rfl hL rfl ?_
      refine f_aln 1 rfl hL rfl ?_
      refine f_gf rfl q g ?_
      refine f_ldc2r rfl ?_
      refine f_lmul rfl ?_
      refine f_ldc2r rfl ?_
      refine f_ladd rfl ?_
      rw [show s * 6364136223846793005 + 1442695040888963407 = f_seed1 s from rfl]
      refine f_pf rfl q (List.getElem?_eq_some_iff.mp g).1 rfl ?_
      have hin1 := f_in_setf hin (k := 25) (w := .long (f_seed1 s)) q rfl rfl rfl f_rAl
      have q1 := f_set_eq (c := .inr (.inr (10, fs.set 25 (.long (f_seed1 s))))) q
      have g1 : (fs.set 25 (.long (f_seed1 s)))[25]? = some (.long (f_seed1 s)) := by rw [List.getElem?_set_self (List.getElem?_eq_some_iff.mp g).1]
      generalize hc.set 55 (.inr (.inr (10, fs.set 25 (.long (f_seed1 s))))) = hc1 at hin1 q1
      refine f_aln 1 rfl hL rfl ?_
      refine f_gf rfl q1 g1 ?_
      refine f_bipush (n := 33) rfl (by decide) ?_
      refine f_lushr rfl ?_
      refine f_ldc2r rfl ?_
      refine f_lrem rfl (by decide) ?_
      refine f_l2i rfl ?_
      rw [show x_lushr (f_seed1 s) (Int32.ofInt 33) - x_lushr (f_seed1 s) (Int32.ofInt 33) / 30 * 30 = f_chance (f_seed1 s) from rfl]
      obtain ⟨v, v1, v2, hv⟩ := f_chance_r (f_seed1 s)
      rw [hv]
      have es : y_get hc1 55 25 = some (.long (f_seed1 s)) := by rw [f_get_o q1]; exact g1
      have hd : v.tdiv 5 = v / 5 := Int.tdiv_eq_ediv_of_nonneg v1
      obtain ⟨fsn, qn, nm, pp, w0, w1, nm1, nm2, pp1, pp2⟩ := g_np hin1
      refine f_istn [(3, fi (v)), (2, fi (k)), (0, .ref 55), (1, fi (m))] rfl (by decide) hL rfl (fun L1 hL1 => ?_)
      refine f_iln 0 rfl hL1 rfl ?_
      refine f_s [fi (5), fi (v)] rfl rfl ?_
      refine f_irem rfl v1 (by omega) (by decide) (by decide) ?_
      refine f_ist [(4, fi ((v) % (5))), (3, fi (v)), (2, fi (k)), (0, .ref 55), (1, fi (m))] rfl (by decide) hL1 rfl (fun L2 hL2 => ?_)
      refine f_aln 3 rfl hL2 rfl ?_
      refine f_il 0 rfl hL2 rfl ?_
      have tail : ∀ (hc2 : ev_H) (L2 : ev_L), y_in yG hc2 → y_get hc2 55 25 = some (.long (f_seed1 s)) → f_L L2 [(4, fi ((v) % (5))), (3, fi (v)), (2, fi (k)), (0, .ref 55), (1, fi (m))] → x_W none (1, 0, 5, 1, 11, 4, 91, 0, 0, ev_t190) 137 L2 [] hc2 0 0 (fun r h' => (∃ w : Int32, r = some (.int w)) ∧ y_in yG h' ∧ y_get h' 55 25 = some (.long (f_itr f_seed1 (m - k).toNat s))) := fun hc2 L2 i2 e2 hL2 => by
        obtain ⟨fs2, q2⟩ := g_55 i2
        obtain ⟨r3, hc3, b1, b2, b3, b4⟩ := f_Mc (R := ev_r91) rfl yc91_1 i2 (as := [.ref 55, fi 1]) (f_args_c f_rAr (f_args_c (f_rA (by decide) (by decide) (by decide) (by decide)) f_args_n))
        obtain ⟨u3, rfl⟩ := f_reti (show y_ret (some (0, _)) r3 from b1)
        refine f_aln 3 rfl hL2 rfl ?_
        refine f_s [fi (1), .ref 55] rfl rfl ?_
        refine f_k1 b4 rfl rfl rfl (f_ar_v q2 rfl) rfl ?_
        refine f_s [] rfl rfl ?_
        refine f_inc 2 [(2, fi (k + 1)), (4, fi ((v) % (5))), (3, fi (v)), (0, .ref 55), (1, fi (m))] rfl (by decide) hL2 rfl rfl (fun L3 hL3 => ?_)
        refine f_goto rfl ?_
        have := ih (k + 1) (f_seed1 s) hc3 _ (by omega) (by omega) (by omega) b2 (by rw [b3 55 25 (f_nc_ok (by decide))]; exact e2) (hL3.sel [0, 3, 4] rfl)
        have e3 : (m - k).toNat = (m - (k + 1)).toNat + 1 := by omega
        rw [e3, f_itr_s]
        exact this
      have hP := f61 hc1 (v % 5) pp (by omega) (by omega) qn w1
      have hNm := f46 hc1 (v.tdiv 5) nm (by omega) (by omega) qn w0
      refine f_k1 hP rfl rfl rfl (f_ar_v q1 rfl) rfl ?_
      refine f_if rfl (by split <;> omega) (fun c6 => ?_) (fun c6 => ?_)
      · have c6 : (if 0 ≤ v % 5 ∧ v % 5 ≤ pp - 1 then 1 else 0 : Int) = (0 : Int) := c6
        refine f_aln 3 rfl hL2 rfl ?_
        refine f_il 0 rfl hL2 rfl ?_
        refine f_k1 hP rfl rfl rfl (f_ar_v q1 rfl) rfl ?_
        refine f_if rfl (by split <;> omega) (fun c2 => ?_) (fun c2 => ?_)
        · have c2 : (if 0 ≤ v % 5 ∧ v % 5 ≤ pp - 1 then 1 else 0 : Int) = (0 : Int) := c2
          exact tail hc1 _ hin1 es hL2
        · have c2 : ¬ ((if 0 ≤ v % 5 ∧ v % 5 ≤ pp - 1 then 1 else 0 : Int) = (0 : Int)) := c2
          refine f_iln 1 rfl hL2 rfl ?_
          refine f_s [fi (5), fi (v)] rfl rfl ?_
          refine f_idiv rfl (by omega) (by omega) (by decide) (by decide) ?_
          refine f_s [fi (4), fi (v.tdiv 5)] rfl rfl ?_
          refine f_ic rfl (by omega) (by omega) (fun c3 => ?_) (fun c3 => ?_)
          · have c3 : (4 : Int) ≤ (v.tdiv 5 : Int) := c3
            exact tail hc1 _ hin1 es hL2
          · have c3 : ¬ ((4 : Int) ≤ (v.tdiv 5 : Int)) := c3
            refine f_aln 3 rfl hL2 rfl ?_
            refine f_iln 1 rfl hL2 rfl ?_
            refine f_s [fi (5), fi (v), .ref 55] rfl rfl ?_
            refine f_idiv rfl (by omega) (by omega) (by decide) (by decide) ?_
            refine f_k1 hNm rfl rfl rfl (f_ar_v q1 rfl) rfl ?_
            refine f_if rfl (by split <;> omega) (fun c4 => ?_) (fun c4 => ?_)
            · have c4 : (if 0 ≤ v.tdiv 5 ∧ v.tdiv 5 ≤ nm - 1 then 1 else 0 : Int) = (0 : Int) := c4
              exact tail hc1 _ hin1 es hL2
            · have c4 : ¬ ((if 0 ≤ v.tdiv 5 ∧ v.tdiv 5 ≤ nm - 1 then 1 else 0 : Int) = (0 : Int)) := c4
              obtain ⟨r8, e8, hC⟩ := f_Mp (R := ev_r77) rfl yc77_1 f_P_ok (by decide) hin1 (as := [.ref 55, fi 1, fi (v % 5), fi (v.tdiv 5)]) (f_args_c f_rAr (f_args_c (f_rA (by decide) (by decide) (by decide) (by decide)) (f_args_c (f_rA (by decide) (by decide) (by show (0 : Int) ≤ _; omega) (by show _ ≤ (4 : Int); omega)) (f_args_c (f_rA (by decide) (by decide) (by show (0 : Int) ≤ _; omega) (by show _ ≤ (3 : Int); omega)) f_args_n))))
              obtain ⟨z8, rfl, z801⟩ := f_ret01 e8
              refine f_aln 3 rfl hL2 rfl ?_
              refine f_s [fi (1), .ref 55] rfl rfl ?_
              refine f_il 0 rfl hL2 rfl ?_
              refine f_iln 1 rfl hL2 rfl ?_
              refine f_s [fi (5), fi (v), fi ((v) % (5)), fi (1), .ref 55] rfl rfl ?_
              refine f_idiv rfl (by omega) (by omega) (by decide) (by decide) ?_
              refine f_k1 hC rfl rfl rfl (f_ar_v q1 rfl) rfl ?_
              refine f_if rfl (by omega) (fun c5 => ?_) (fun c5 => ?_)
              · have c5 : (z8 : Int) = (0 : Int) := c5
                exact tail hc1 _ hin1 es hL2
              · have c5 : ¬ ((z8 : Int) = (0 : Int)) := c5
                obtain ⟨r9, hc9, t1, t2, t3, t4⟩ := f_Mc (R := ev_r79) rfl yc79_1 hin1 (as := [.ref 55, fi 1, fi (v % 5), fi (v.tdiv 5)]) (f_args_c f_rAr (f_args_c (f_rA (by decide) (by decide) (by decide) (by decide)) (f_args_c (f_rA (by decide) (by decide) (by show (0 : Int) ≤ _; omega) (by show _ ≤ (4 : Int); omega)) (f_args_c ⟨Int32.ofInt (v.tdiv 5), rfl, Or.inl ⟨by rw [x_i32 (by omega) (by omega)]; show (0 : Int) ≤ _; omega, by rw [x_i32 (by omega) (by omega)]; show _ ≤ (3 : Int); omega⟩⟩ f_args_n))))
                have t1 : r9 = none := t1
                subst t1
                refine f_aln 3 rfl hL2 rfl ?_
                refine f_s [fi (1), .ref 55] rfl rfl ?_
                refine f_il 0 rfl hL2 rfl ?_
                refine f_iln 1 rfl hL2 rfl ?_
                refine f_s [fi (5), fi (v), fi ((v) % (5)), fi (1), .ref 55] rfl rfl ?_
                refine f_idiv rfl (by omega) (by omega) (by decide) (by decide) ?_
                refine f_k0 t4 rfl rfl rfl (f_ar_v q1 rfl) rfl ?_
                exact tail hc9 _ t2 (by rw [t3 55 25 (f_nc_ok (by decide))]; exact es) hL2
      · have c6 : ¬ ((if 0 ≤ v % 5 ∧ v % 5 ≤ pp - 1 then 1 else 0 : Int) = (0 : Int)) := c6
        refine f_iln 1 rfl hL2 rfl ?_
        refine f_s [fi (5), fi (v)] rfl rfl ?_
        refine f_idiv rfl (by omega) (by omega) (by decide) (by decide) ?_
        refine f_s [fi (5), fi (v.tdiv 5)] rfl rfl ?_
        refine f_ic rfl (by omega) (by omega) (fun c7 => ?_) (fun c7 => ?_)
        · have c7 : ¬ (v.tdiv 5 : Int) = (5 : Int) := c7
          refine f_aln 3 rfl hL2 rfl ?_
          refine f_il 0 rfl hL2 rfl ?_
          refine f_k1 hP rfl rfl rfl (f_ar_v q1 rfl) rfl ?_
          refine f_if rfl (by split <;> omega) (fun c2 => ?_) (fun c2 => ?_)
          · have c2 : (if 0 ≤ v % 5 ∧ v % 5 ≤ pp - 1 then 1 else 0 : Int) = (0 : Int) := c2
            exact tail hc1 _ hin1 es hL2
          · have c2 : ¬ ((if 0 ≤ v % 5 ∧ v % 5 ≤ pp - 1 then 1 else 0 : Int) = (0 : Int)) := c2
            refine f_iln 1 rfl hL2 rfl ?_
            refine f_s [fi (5), fi (v)] rfl rfl ?_
            refine f_idiv rfl (by omega) (by omega) (by decide) (by decide) ?_
            refine f_s [fi (4), fi (v.tdiv 5)] rfl rfl ?_
            refine f_ic rfl (by omega) (by omega) (fun c3 => ?_) (fun c3 => ?_)
            · have c3 : (4 : Int) ≤ (v.tdiv 5 : Int) := c3
              exact tail hc1 _ hin1 es hL2
            · have c3 : ¬ ((4 : Int) ≤ (v.tdiv 5 : Int)) := c3
              refine f_aln 3 rfl hL2 rfl ?_
              refine f_iln 1 rfl hL2 rfl ?_
              refine f_s [fi (5), fi (v), .ref 55] rfl rfl ?_
              refine f_idiv rfl (by omega) (by omega) (by decide) (by decide) ?_
              refine f_k1 hNm rfl rfl rfl (f_ar_v q1 rfl) rfl ?_
              refine f_if rfl (by split <;> omega) (fun c4 => ?_) (fun c4 => ?_)
              · have c4 : (if 0 ≤ v.tdiv 5 ∧ v.tdiv 5 ≤ nm - 1 then 1 else 0 : Int) = (0 : Int) := c4
                exact tail hc1 _ hin1 es hL2
              · have c4 : ¬ ((if 0 ≤ v.tdiv 5 ∧ v.tdiv 5 ≤ nm - 1 then 1 else 0 : Int) = (0 : Int)) := c4
                obtain ⟨r8, e8, hC⟩ := f_Mp (R := ev_r77) rfl yc77_1 f_P_ok (by decide) hin1 (as := [.ref 55, fi 1, fi (v % 5), fi (v.tdiv 5)]) (f_args_c f_rAr (f_args_c (f_rA (by decide) (by decide) (by decide) (by decide)) (f_args_c (f_rA (by decide) (by decide) (by show (0 : Int) ≤ _; omega) (by show _ ≤ (4 : Int); omega)) (f_args_c (f_rA (by decide) (by decide) (by show (0 : Int) ≤ _; omega) (by show _ ≤ (3 : Int); omega)) f_args_n))))
                obtain ⟨z8, rfl, z801⟩ := f_ret01 e8
                refine f_aln 3 rfl hL2 rfl ?_
                refine f_s [fi (1), .ref 55] rfl rfl ?_
                refine f_il 0 rfl hL2 rfl ?_
                refine f_iln 1 rfl hL2 rfl ?_
                refine f_s [fi (5), fi (v), fi ((v) % (5)), fi (1), .ref 55] rfl rfl ?_
                refine f_idiv rfl (by omega) (by omega) (by decide) (by decide) ?_
                refine f_k1 hC rfl rfl rfl (f_ar_v q1 rfl) rfl ?_
                refine f_if rfl (by omega) (fun c5 => ?_) (fun c5 => ?_)
                · have c5 : (z8 : Int) = (0 : Int) := c5
                  exact tail hc1 _ hin1 es hL2
                · have c5 : ¬ ((z8 : Int) = (0 : Int)) := c5
                  obtain ⟨r9, hc9, t1, t2, t3, t4⟩ := f_Mc (R := ev_r79) rfl yc79_1 hin1 (as := [.ref 55, fi 1, fi (v % 5), fi (v.tdiv 5)]) (f_args_c f_rAr (f_args_c (f_rA (by decide) (by decide) (by decide) (by decide)) (f_args_c (f_rA (by decide) (by decide) (by show (0 : Int) ≤ _; omega) (by show _ ≤ (4 : Int); omega)) (f_args_c ⟨Int32.ofInt (v.tdiv 5), rfl, Or.inl ⟨by rw [x_i32 (by omega) (by omega)]; show (0 : Int) ≤ _; omega, by rw [x_i32 (by omega) (by omega)]; show _ ≤ (3 : Int); omega⟩⟩ f_args_n))))
                  have t1 : r9 = none := t1
                  subst t1
                  refine f_aln 3 rfl hL2 rfl ?_
                  refine f_s [fi (1), .ref 55] rfl rfl ?_
                  refine f_il 0 rfl hL2 rfl ?_
                  refine f_iln 1 rfl hL2 rfl ?_
                  refine f_s [fi (5), fi (v), fi ((v) % (5)), fi (1), .ref 55] rfl rfl ?_
                  refine f_idiv rfl (by omega) (by omega) (by decide) (by decide) ?_
                  refine f_k0 t4 rfl rfl rfl (f_ar_v q1 rfl) rfl ?_
                  exact tail hc9 _ t2 (by rw [t3 55 25 (f_nc_ok (by decide))]; exact es) hL2
        · have c7 : ¬ (¬ (v.tdiv 5 : Int) = (5 : Int)) := c7
          obtain ⟨r9, hc9, t1, t2, t3, t4⟩ := f_Mc (R := ev_r79) rfl yc79_1 hin1 (as := [.ref 55, fi 1, fi (v % 5), fi (-9)]) (f_args_c f_rAr (f_args_c (f_rA (by decide) (by decide) (by decide) (by decide)) (f_args_c (f_rA (by decide) (by decide) (by show (0 : Int) ≤ _; omega) (by show _ ≤ (4 : Int); omega)) (f_args_c ⟨Int32.ofInt (-9), rfl, Or.inr ⟨rfl, by decide⟩⟩ f_args_n))))
          have t1 : r9 = none := t1
          subst t1
          refine f_aln 3 rfl hL2 rfl ?_
          refine f_s [fi (1), .ref 55] rfl rfl ?_
          refine f_il 0 rfl hL2 rfl ?_
          refine f_bipush (n := -9) rfl (by decide) ?_
          refine f_k0 t4 rfl rfl rfl (f_ar_v q1 rfl) rfl ?_
          refine f_goto rfl ?_
          exact tail hc9 _ t2 (by rw [t3 55 25 (f_nc_ok (by decide))]; exact es) hL2
theorem f190 {hc : ev_H} (hin : y_in yG hc) {s : Int64} (hg : y_get hc 55 25 = some (.long s)) {m : Int} (rm : -2147483648 ≤ m ∧ m ≤ 2147483647) : ∃ w hc', f_M 190 [.ref 55, fi m] hc (some (.int w)) hc' ∧ y_in yG hc' ∧ y_get hc' 55 25 = some (.long (if 1 ≤ m ∧ m ≤ 30 then f_itr f_seed1 m.toNat s else s)) := by
  have key : x_W none (1, 0, 5, 1, 11, 4, 91, 0, 0, ev_t190) 0 (lv_args 0 [.ref 55, fi m]) [] hc 0 0 (fun r h' => (∃ w : Int32, r = some (.int w)) ∧ y_in yG h' ∧ y_get h' 55 25 = some (.long (if 1 ≤ m ∧ m ≤ 30 then f_itr f_seed1 m.toNat s else s))) := by
    have hL : f_L (lv_args 0 [.ref 55, fi m]) [(0, .ref 55), (1, fi (m))] := f_L_of rfl
    generalize lv_args 0 [.ref 55, fi m] = L at hL
    refine f_iln 1 rfl hL rfl ?_
    refine f_i2l rfl (by omega) ?_
    refine f_s [fl (1), fl (m)] rfl rfl ?_
    refine f_ldc2 (30) rfl rfl ?_
    refine f_k1 (f15 hc m 1 30 (by omega) (by omega) (by omega)) rfl rfl rfl rfl rfl ?_
    refine f_if rfl (by split <;> omega) (fun c1 => ?_) (fun c1 => ?_)
    · have c1 : ¬ (if 1 ≤ m ∧ m ≤ 30 then 1 else 0 : Int) = (0 : Int) := c1
      have c9 : 1 ≤ m ∧ m ≤ 30 := by
        by_cases z : 1 ≤ m ∧ m ≤ 30
        · exact z
        · rw [if_neg z] at c1; exact absurd rfl c1
      obtain ⟨fs, q⟩ := g_55 hin
      obtain ⟨r1, hc1, a1, a2, a3, a4⟩ := f_Mc (R := ev_r141) rfl yc141_0 hin (as := [.ref 55]) (f_args_c f_rAr f_args_n)
      have a1 : r1 = none := a1
      subst a1
      refine f_aln 0 rfl hL rfl ?_
      refine f_k0 a4 rfl rfl rfl (f_ar_v q rfl) rfl ?_
      refine f_s [fi (0)] rfl rfl ?_
      refine f_istn [(2, fi (0)), (0, .ref 55), (1, fi (m))] rfl (by decide) hL rfl (fun L1 hL1 => ?_)
      rw [if_pos c9]
      have := f190_loop c9.1 c9.2 m.toNat 0 s hc1 _ (by omega) (by omega) (by omega) a2 (by rw [a3 55 25 (f_nc_ok (by decide))]; exact hg) (hL1.sel [0, 1, 2] rfl)
      rw [Int.sub_zero] at this
      exact this
    · have c1 : ¬ (¬ (if 1 ≤ m ∧ m ≤ 30 then 1 else 0 : Int) = (0 : Int)) := c1
      have c9 : ¬ (1 ≤ m ∧ m ≤ 30) := fun z => by rw [if_pos z] at c1; omega
      refine f_bipush (n := -2) rfl (by decide) ?_
      exact f_ret1 rfl ⟨⟨_, rfl⟩, hin, by rw [if_neg c9]; exact hg⟩
  obtain ⟨n, r, h', e, ⟨w, rfl⟩, e2, e3⟩ := key
  exact ⟨w, h', fun R hR => by cases hR; exact ⟨n, e⟩, e2, e3⟩
