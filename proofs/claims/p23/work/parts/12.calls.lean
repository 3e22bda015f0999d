/-! calls, what is new, and the whole: what ev answers, the machine does -/
section EV4
variable {p : Program} {l : Launch} {e : Env} {R : Room} {s : State} {m : MethodId} {args : Array Value} {below : List Frame} {meth : Method} {c : Code} {H : Heap} {locs : List Loc} {cells slots : Nat} {Q : State → Prop}
variable {cc : ByteArray} {pc : Nat} {ls : Array Slot} {b0 b : Nat} {D : va_G} {cy : Nat → ClassId} {hp : ev_H}
theorem ev_after {mc ms : Nat} {st0 rest : List Value} {av : Array Value} {rv : Option Value} {hp' : ev_H} (hr : va_Run p l e R s m args below meth c H locs cells slots mc ms (F0 m pc ls st0) rest (ev_Q D cy b0 b rv hp' av) (ev_A b0)) (hS : va_S (ev_A b0) s.heap H locs)
    (kk : ∀ (H1 : Heap) (locs1 : List Loc), ev_P D cy b0 b hp' H1 → va_S (ev_A b0) s.heap H1 locs1 → W p l e R s m args below meth c H1 locs1 (cells + mc) (slots + ms) Q (F0 m (pc + 3) ls (rv.toList.map (ev_v b0 b) ++ rest))) : W p l e R s m args below meth c H locs cells slots Q (F0 m pc ls st0) := by
  cases rv with
  | none => exact va_callv (a := av) hr hS (fun _ _ h => h) (fun _ h => h) (fun u t H1 locs1 ht _ _ hB _ _ hS1 => kk H1 locs1 (by have hB : ev_P D cy b0 b hp' t.heap := hB; rw [ht] at hB; exact hB) hS1)
  | some v =>
    cases v with
    | int x => exact va_calli (a := av) hr hS (fun _ _ h => h) (fun _ h => h) (fun r u t H1 locs1 ht _ hr0 hB _ _ hS1 => by
        have hB : ev_P D cy b0 b hp' t.heap := hB
        have hr0 : r = x := hr0
        subst hr0
        rw [ht] at hB
        exact kk H1 locs1 hB hS1)
    | long x => exact va_calll (a := av) hr hS (fun _ _ h => h) (fun _ h => h) (fun r u t H1 locs1 ht _ hr0 hB _ _ hS1 => by
        have hB : ev_P D cy b0 b hp' t.heap := hB
        have hr0 : r = x := hr0
        subst hr0
        rw [ht] at hB
        exact kk H1 locs1 hB hS1)
    | _ =>
      intro T hT X
      obtain ⟨v, st₀, t, T', L, h0, X', hL, e1, e2, hF, st⟩ := hr T hT X
      exact hF.elim
theorem ev_mok_ok {own : String} {idx a pp : Nat} {y : MethodName} (h : ev_mok own idx a pp = true) (hn : ev_nm a = some y) : Cond.methodLink own idx y ∈ ev_tb := by
  unfold ev_mok at h
  rw [hn] at h
  exact ev_in_ok h
theorem ev_sum_r {r : List Value} (h : ev_sum r ≤ 8) : ((r.map (ev_v b0 b)).map fun v => v.category).sum ≤ 8 := by
  have := ev_sum_m b0 b r
  unfold ev_sum at this h
  rw [this]
  exact h
set_option maxHeartbeats 4000000 in
theorem ev_call {n : Nat} (IH : ev_Snd n) (hx : p.tables.exec = Jvm.exec) (hb : c.code = cc) {own : String} (hown : s.vm.findClass own = some m.cls) (hts : ∀ w ∈ ev_tb, w.before args s = true) {mx0 : Nat} (hml : c.maxLocals = mx0) (hl : ls.size = mx0) (hK : ev_K D cy s) (hP : ev_P D cy b0 b hp H) (hS : va_S (ev_A b0) s.heap H locs)
    {i : Instr} {a bb pp : Nat} {v : Value} (hk : ev_k i bb = some 0) (hok : ev_eok1 own (pc, i, a, bb, pp, v) = true) (hd : decode cc pc = .ok (i, 3)) {rt ini mx na rc fr lo mc ms : Nat} {t : ev_T} {y : MethodName} {cc' : ByteArray} {ret : Option FieldType} {p1 p2 p3 p4 : Nat} (hr : ev_ms a = some ((rt, ini, mx, na, rc, fr, lo, mc, ms, t), y, cc', ret, p1, p2, p3, p4))
    {st as r : List Value} (har : ev_ar rc na st hp = some (as, r)) (hfit : ev_fit i (rt, ini, mx, na, rc, fr, lo, mc, ms, t) = true) (h1 : fr + 1 ≤ R.frames) (h2 : 8 + (mx + 11) + lo ≤ R.locals) (h3 : ev_sum r ≤ 8) (h4 : ev_sum as ≤ mx) (h5 : cells + mc ≤ R.cells) (h6 : slots + ms ≤ R.slots) {rv : Option Value} {hp' : ev_H}
    (hev : ev n none (rt, ini, mx, na, rc, fr, lo, mc, ms, t) 0 (lv_args 0 as) [] hp 0 0 = some (rv, hp'))
    (kk : ∀ (H1 : Heap) (locs1 : List Loc), ev_P D cy b0 b hp' H1 → va_S (ev_A b0) s.heap H1 locs1 → W p l e R s m args below meth c H1 locs1 (cells + mc) (slots + ms) Q (F0 m (pc + 3) ls (rv.toList.map (ev_v b0 b) ++ r.map (ev_v b0 b)))) : W p l e R s m args below meth c H locs cells slots Q (F0 m pc ls (st.map (ev_v b0 b))) := by
  have hM := ev_met IH hr hev h4 l D cy b0 b
  obtain ⟨hrow, hnm⟩ := ev_ms_ok hr
  unfold ev_rowok at hrow
  rw [Bool.and_eq_true] at hrow
  obtain ⟨hrw, htk⟩ := hrow
  obtain ⟨w1, w2, hpl, w4, w5, w6, hrt, w8, w9⟩ := ev_rw_ok hrw
  have hnm : ev_nm a = some y := hnm
  have hcode : ∀ w ∈ (Cond.code y cc' mx ret :: ev_tb), w ∈ ev_tb := fun w hw => by
    rcases List.mem_cons.mp hw with rfl | hw
    · exact w1
    · exact hw
  rcases ev_ka hk with ⟨idx, rfl⟩ | ⟨idx, rfl, rfl⟩ | ⟨idx, rfl, hbb⟩
  · have hlink := ev_mok_ok (own := own) (idx := idx) (pp := pp) hok hnm
    have hfit : (!(Nat.beq rc 0) && Nat.beq ini 0) = true := hfit
    cases rc with
    | zero => simp at hfit
    | succ k =>
      rw [Bool.and_eq_true] at hfit
      have hini := ev_beq hfit.2
      obtain ⟨q, fs, hst, hq, has⟩ := ev_ar_s har
      subst has
      obtain ⟨g1, g2, -, qc, g4, g5⟩ := w9 k rfl
      have hsel := g2 hini
      have hlen : (((st.take na).reverse).map (ev_v b0 b)).length = na := by
        have : (st.drop na).length = (Value.ref q :: r).length := by rw [hst]
        simp only [List.length_drop, List.length_cons] at this
        simp only [List.length_map, List.length_reverse, List.length_take]
        omega
      refine ev_after (va_runV (C := y.cls) (b := b0 + q) (As := ((st.take na).reverse).map (ev_v b0 b)) (rest := r.map (ev_v b0 b)) (nL := mx0) ⟨hx, hb, hml, hown, hts⟩ hM (cwV na hts (ev_goodL (fun w hw => ?_)) rfl rfl rfl ⟨rfl, w4, w5, w6⟩ ⟨h1, h2⟩) ⟨ev_blind D cy b0 b hp _, ?_, fun U hU hW => ⟨rfl, by rw [hU]; exact hP, hK.warm hW⟩⟩ rfl hlen hl ?_ (lv_room (ev_sum_r h3)) hd ⟨h5, h6⟩) hS kk
      · unfold wsV at hw
        rcases List.mem_append.mp hw with hw | hw
        · simp only [List.mem_cons, List.not_mem_nil, or_false] at hw
          rcases hw with rfl | rfl | rfl | rfl
          · exact hlink
          · exact g1
          · exact hsel
          · exact w2
        · exact hcode w hw
      · rw [← g5]
        exact va_recv hK.1 hP.1 g4 (ev_w_at hq)
      · show st.map (ev_v b0 b) = _
        rw [ev_stk (na := na), hst]
        rfl
  · have hlink := ev_mok_ok (own := own) (idx := idx) (pp := pp) hok hnm
    have hfit : (Nat.beq rc 0 && Nat.beq ini 0) = true := hfit
    rw [Bool.and_eq_true] at hfit
    have hrc := ev_beq hfit.1
    subst hrc
    obtain ⟨g1, g2⟩ := w8 rfl
    obtain ⟨hna, has, hr9⟩ := ev_ar_0 har
    subst has
    subst hr9
    have hlen : (((st.take na).reverse).map (ev_v b0 b)).length = na := by
      simp only [List.length_map, List.length_reverse, List.length_take]
      omega
    refine ev_after (va_runS (As := ((st.take na).reverse).map (ev_v b0 b)) (rest := (st.drop na).map (ev_v b0 b)) (nL := mx0) ⟨hx, hb, hml, hown, hts⟩ hM (va_cwS na hts (ev_goodL (fun w hw => ?_)) rfl rfl rfl ⟨w4, w5, w6⟩ ⟨h1, h2⟩) ⟨ev_blind D cy b0 b hp _, fun U hU hW => ⟨rfl, by rw [hU]; exact hP, hK.warm hW⟩⟩ rfl hlen hl ?_ (lv_room (ev_sum_r h3)) hd ⟨h5, h6⟩) hS kk
    · unfold va_wsS at hw
      rcases List.mem_append.mp hw with hw | hw
      · simp only [List.mem_cons, List.not_mem_nil, or_false] at hw
        rcases hw with rfl | rfl | rfl
        · exact hlink
        · exact g1
        · exact w2
      · exact hcode w hw
    · show st.map (ev_v b0 b) = _
      rw [← ev_stk (na := na)]
  · have hfit : (!(Nat.beq ini 0) && !(Nat.beq rc 0)) = true := hfit
    cases rc with
    | zero => simp at hfit
    | succ k =>
      cases ini with
      | zero => simp at hfit
      | succ j =>
        obtain ⟨q, fs, hst, hq, has⟩ := ev_ar_s har
        subst has
        obtain ⟨g1, -, g3, qc, g4, g5⟩ := w9 k rfl
        obtain ⟨e1, e2, e3⟩ := g3 j rfl
        subst e3
        have hr0 : ret = none := of_decide_eq_true hrt
        subst hr0
        have hlen : (((st.take na).reverse).map (ev_v b0 b)).length = na := by
          have : (st.drop na).length = (Value.ref q :: r).length := by rw [hst]
          simp only [List.length_drop, List.length_cons] at this
          simp only [List.length_map, List.length_reverse, List.length_take]
          omega
        have hstk : st.map (ev_v b0 b) = (((st.take na).reverse).map (ev_v b0 b)).reverse ++ .ref (b0 + q) :: r.map (ev_v b0 b) := by
          rw [ev_stk (na := na), hst]
          rfl
        match bb, hbb, hok with
        | 0, z, _ => exact absurd rfl z
        | 1, _, hok =>
          have hlink := ev_mok_ok (own := own) (idx := idx) (pp := pp) hok hnm
          exact ev_after (va_runI (b := b0 + q) (As := ((st.take na).reverse).map (ev_v b0 b)) (rest := r.map (ev_v b0 b)) (nL := mx0) ⟨hx, hb, hml, hown, hts⟩ hM (cwI na hts (ev_goodL hcode) rfl rfl rfl (hts _ w2) (hts _ hlink) (hts _ g1) e2 ⟨w4, w5, w6⟩ ⟨h1, h2⟩) ⟨ev_blind D cy b0 b hp _, fun U hU hW => ⟨rfl, by rw [hU]; exact hP, hK.warm hW⟩⟩ rfl hlen hl hstk (lv_room (ev_sum_r h3)) hd ⟨h5, h6⟩) hS kk
        | bb + 2, _, hok =>
          have hnest : Cond.methodLinkNest own idx y "NameHall" ∈ ev_nest := by
            have hok : (match ev_nm a with
              | some y => decide (Cond.methodLinkNest own idx y "NameHall" ∈ ev_nest)
              | none => false) = true := hok
            rw [hnm] at hok
            exact of_decide_eq_true hok
          exact ev_after (va_runIN (b := b0 + q) (As := ((st.take na).reverse).map (ev_v b0 b)) (rest := r.map (ev_v b0 b)) (nL := mx0) ⟨hx, hb, hml, hown, hts⟩ hM ⟨va_cnB na hts (ev_goodL hcode) rfl rfl rfl (hK.2.1 _ hnest) (hts _ w2) ⟨w4, w5, w6⟩ ⟨h1, h2⟩, e2, hts _ g1⟩ ⟨ev_blind D cy b0 b hp _, fun U hU hW => ⟨rfl, by rw [hU]; exact hP, hK.warm hW⟩⟩ rfl hlen hl hstk (lv_room (ev_sum_r h3)) hd ⟨h5, h6⟩) hS kk
set_option maxHeartbeats 4000000 in
theorem ev_n_ok (hx : p.tables.exec = Jvm.exec) (hb : c.code = cc) {own : String} (hown : s.vm.findClass own = some m.cls) (hts : ∀ w ∈ ev_tb, w.before args s = true) (hK : ev_K D cy s) (hP : ev_P D cy b0 b hp H) (hS : va_S (ev_A b0) s.heap H locs)
    {i : Instr} {a bb pp dc ds : Nat} {v : Value} {st st' : List Value} {hp1 : ev_H} (hok : ev_eok1 own (pc, i, a, bb, pp, v) = true) (h : ev_n i a st hp = some (st', hp1, dc, ds)) (hd : decode cc pc = .ok (i, ev_len i)) (hcl : cells + dc ≤ R.cells) (hsl : slots + ds ≤ R.slots)
    (kk : ∀ H1 : Heap, ev_P D cy b0 b hp1 H1 → va_S (ev_A b0) s.heap H1 locs → W p l e R s m args below meth c H1 locs (cells + dc) (slots + ds) Q (F0 m (pc + ev_len i) ls (st'.map (ev_v b0 b)))) : W p l e R s m args below meth c H locs cells slots Q (F0 m pc ls (st.map (ev_v b0 b))) := by
  unfold ev_n at h
  split at h
  · rename_i idx
    split at h
    · rename_i qc ty hc ht
      cases h
      unfold ev_eok1 at hok
      dsimp only at hok
      rw [hc] at hok
      cases v with
      | retAddr z =>
        simp only [Bool.and_eq_true] at hok
        exact ev_rnew hx hb hown hts hK.1 hP hS hc ht (ev_in_ok hok.1) (ev_in_ok hok.2.1) (ev_in_ok hok.2.2) hcl hsl hd kk
      | _ => simp at hok
    · cases h
  · split at h
    · rename_i n r9
      split at h
      · cases h
      · rename_i hn
        have hn1 : ¬ n < 0 := fun z => hn (Or.inl z)
        have hn2 : n.toNatClampNeg ≤ 100000 := Nat.not_lt.mp fun z => hn (Or.inr z)
        split at h
        · cases h
          exact ev_rnewa (ty := .int) (at9 := .int) hx hb hK.1 hP hS (t := 0) (hts _ ev_gAi) rfl rfl rfl hn1 (by show _ * 4 ≤ _; omega) hcl hsl hd kk
        · cases h
          exact ev_rnewa (ty := .int) (at9 := .char) hx hb hK.1 hP hS (t := 1) (hts _ ev_gAc) rfl rfl rfl hn1 (by show _ * 2 ≤ _; omega) hcl hsl hd kk
        · cases h
          exact ev_rnewa (ty := .int) (at9 := .boolean) hx hb hK.1 hP hS (t := 2) (hts _ ev_gAz) rfl rfl rfl hn1 (by show _ * 1 ≤ _; omega) hcl hsl hd kk
        · cases h
    · cases h
  · split at h
    · rename_i k n r9
      split at h
      · cases h
      · rename_i hn
        cases h
        have hn1 : ¬ n < 0 := fun z => hn (Or.inl (Or.inl z))
        have hn2 : n.toNatClampNeg ≤ 1000 := Nat.not_lt.mp fun z => hn (Or.inl (Or.inr z))
        have hk1 : ¬ k < 0 := fun z => hn (Or.inr (Or.inl z))
        have hk2 : k.toNatClampNeg ≤ 1000 := Nat.not_lt.mp fun z => hn (Or.inr (Or.inr z))
        have hok := ev_in_ok hok
        exact ev_rmna hx hb hown hK.1 hK.2.2 hP hS (hts _ hok) (hts _ ev_gAi) hn1 hk1 hn2 hk2 hcl hsl hd kk
    · cases h
  · cases h
end EV4
