/-! the claim -/
theorem xp_small {n : Nat} (hn : n ≤ 5) (h1 : (match xp_A n with
  | some outs => Nat.ble outs.length 1
  | none => false) = true) (h2 : xp_B n 0 = true) (xs : Nat → Int32) : ∃ m hp', ev m (some ((List.range n).map xs)) (ev_law 600000 7302250) 0 [(0, .retAddr 0)] [] [] 0 0 = some (some (.int 1), hp') := by
  cases hA : xp_A n with
  | none => rw [hA] at h1; cases h1
  | some outs =>
    have h1' := h1
    rw [hA] at h1'
    have hl := Nat.le_of_ble_eq_true h1'
    refine xp_fin hn ?_ (fun outs' ho j o _ hj => ?_) xs
    · unfold xp_L
      rw [hA]
      exact Nat.ble_eq_true_of_le (by omega)
    · rw [hA] at ho
      cases ho
      have hlt := (List.getElem?_eq_some_iff.mp hj).1
      have hj0 : j = 0 := by omega
      subst hj0
      exact xp_C_ok (xp_at_ok h2 hA hj)
theorem xp_five (xs : Nat → Int32) : ∃ m hp', ev m (some ((List.range 5).map xs)) (ev_law 600000 7302250) 0 [(0, .retAddr 0)] [] [] 0 0 = some (some (.int 1), hp') := by
  refine xp_fin (Nat.le_refl 5) xp_L5 (fun outs hA j o hlt hj => ?_) xs
  match j, hlt, hj with
  | 0, _, hj => exact xp_C_ok (xp_at_ok xp_B5_0 hA hj)
  | 1, _, hj => exact xp_C_ok (xp_at_ok xp_B5_1 hA hj)
  | 2, _, hj => exact xp_C_ok (xp_at_ok xp_B5_2 hA hj)
  | 3, _, hj => exact xp_C_ok (xp_at_ok xp_B5_3 hA hj)
  | 4, _, hj => exact xp_C_ok (xp_at_ok xp_B5_4 hA hj)
  | 5, _, hj => exact xp_C_ok (xp_at_ok xp_B5_5 hA hj)
  | 6, _, hj => exact xp_C_ok (xp_at_ok xp_B5_6 hA hj)
  | 7, _, hj => exact xp_C_ok (xp_at_ok xp_B5_7 hA hj)
  | 8, _, hj => exact xp_C_ok (xp_at_ok xp_B5_8 hA hj)
  | 9, _, hj => exact xp_C_ok (xp_at_ok xp_B5_9 hA hj)
  | 10, _, hj => exact xp_C_ok (xp_at_ok xp_B5_10 hA hj)
  | 11, _, hj => exact xp_C_ok (xp_at_ok xp_B5_11 hA hj)
  | 12, _, hj => exact xp_C_ok (xp_at_ok xp_B5_12 hA hj)
  | 13, _, hj =>
    have f : ∀ {z1 z2 : Int}, xp_at 5 13 (xp_Z 5 z1 z2) = true → xp_Z 5 z1 z2 o = true := fun h => xp_at_ok h hA hj
    intro ρ sc Lc stc hc hr hX hG
    obtain ⟨r1, r2⟩ := hr 1 (by decide)
    by_cases h1 : ρ 1 < 0
    · exact xp_Z_ok (f xp_Z13_m) ρ r1 (by show ρ 1 ≤ (-1 : Int); omega) hX hG
    by_cases h2 : ρ 1 = 0
    · exact xp_Z_ok (f xp_Z13_0) ρ (by show (0 : Int) ≤ ρ 1; omega) (by show ρ 1 ≤ (0 : Int); omega) hX hG
    by_cases h2 : ρ 1 = 1
    · exact xp_Z_ok (f xp_Z13_1) ρ (by show (1 : Int) ≤ ρ 1; omega) (by show ρ 1 ≤ (1 : Int); omega) hX hG
    by_cases h2 : ρ 1 = 2
    · exact xp_Z_ok (f xp_Z13_2) ρ (by show (2 : Int) ≤ ρ 1; omega) (by show ρ 1 ≤ (2 : Int); omega) hX hG
    by_cases h2 : ρ 1 = 3
    · exact xp_Z_ok (f xp_Z13_3) ρ (by show (3 : Int) ≤ ρ 1; omega) (by show ρ 1 ≤ (3 : Int); omega) hX hG
    by_cases h2 : ρ 1 = 4
    · exact xp_Z_ok (f xp_Z13_4) ρ (by show (4 : Int) ≤ ρ 1; omega) (by show ρ 1 ≤ (4 : Int); omega) hX hG
    by_cases h2 : ρ 1 = 5
    · exact xp_Z_ok (f xp_Z13_5) ρ (by show (5 : Int) ≤ ρ 1; omega) (by show ρ 1 ≤ (5 : Int); omega) hX hG
    by_cases h2 : ρ 1 = 6
    · exact xp_Z_ok (f xp_Z13_6) ρ (by show (6 : Int) ≤ ρ 1; omega) (by show ρ 1 ≤ (6 : Int); omega) hX hG
    by_cases h2 : ρ 1 = 7
    · exact xp_Z_ok (f xp_Z13_7) ρ (by show (7 : Int) ≤ ρ 1; omega) (by show ρ 1 ≤ (7 : Int); omega) hX hG
    by_cases h2 : ρ 1 = 8
    · exact xp_Z_ok (f xp_Z13_8) ρ (by show (8 : Int) ≤ ρ 1; omega) (by show ρ 1 ≤ (8 : Int); omega) hX hG
    by_cases h2 : ρ 1 = 9
    · exact xp_Z_ok (f xp_Z13_9) ρ (by show (9 : Int) ≤ ρ 1; omega) (by show ρ 1 ≤ (9 : Int); omega) hX hG
    exact xp_Z_ok (f xp_Z13_10) ρ (by show (10 : Int) ≤ ρ 1; omega) r2 hX hG
  | 14, _, hj => exact xp_C_ok (xp_at_ok xp_B5_14 hA hj)
  | 15, _, hj => exact xp_C_ok (xp_at_ok xp_B5_15 hA hj)
  | 16, _, hj => exact xp_C_ok (xp_at_ok xp_B5_16 hA hj)
  | 17, _, hj => exact xp_C_ok (xp_at_ok xp_B5_17 hA hj)
  | 18, _, hj => exact xp_C_ok (xp_at_ok xp_B5_18 hA hj)
  | 19, _, hj => exact xp_C_ok (xp_at_ok xp_B5_19 hA hj)
  | 20, _, hj => exact xp_C_ok (xp_at_ok xp_B5_20 hA hj)
  | 21, _, hj => exact xp_C_ok (xp_at_ok xp_B5_21 hA hj)
  | 22, _, hj => exact xp_C_ok (xp_at_ok xp_B5_22 hA hj)
  | 23, _, hj => exact xp_C_ok (xp_at_ok xp_B5_23 hA hj)
  | 24, _, hj => exact xp_C_ok (xp_at_ok xp_B5_24 hA hj)
  | 25, _, hj => exact xp_C_ok (xp_at_ok xp_B5_25 hA hj)
  | 26, _, hj => exact xp_C_ok (xp_at_ok xp_B5_26 hA hj)
  | 27, _, hj => exact xp_C_ok (xp_at_ok xp_B5_27 hA hj)
  | 28, _, hj => exact xp_C_ok (xp_at_ok xp_B5_28 hA hj)
  | j + 29, hlt, _ => exact absurd hlt (by omega)
/-- from the entry, for every script of at most 5 ints, the law comes to its end with true -/
theorem whole_start {p : Program} {e : Env} {s : State} {m : MethodId} {below : List Frame} {meth : Method} {c : Code} (l : Launch) {b L : Nat} {xs : Nat → Int32} (hL : L ≤ 5) (C0 : lw_At p s m meth c b L xs) : W p l e room_1 s m #[Value.ref b] below meth c s.heap [] 0 0 (lw_Z below #[Value.ref b] s) (entryFrame m ([Value.ref b] : List Value).toArray 4) := by
  have h : ∃ m hp', ev m (some ((List.range L).map xs)) (ev_law 600000 7302250) 0 [(0, .retAddr 0)] [] [] 0 0 = some (some (.int 1), hp') := by
    match L, hL with
    | 0, h => exact xp_small h xp_L0 xp_B0_0 xs
    | 1, h => exact xp_small h xp_L1 xp_B1_0 xs
    | 2, h => exact xp_small h xp_L2 xp_B2_0 xs
    | 3, h => exact xp_small h xp_L3 xp_B3_0 xs
    | 4, h => exact xp_small h xp_L4 xp_B4_0 xs
    | 5, _ => exact xp_five xs
    | L + 6, h => omega
  obtain ⟨n, hp', h⟩ := h
  exact ev_whole l C0 h
set_option maxHeartbeats 4000000 in
theorem lw_walk (l : Launch) (b : Addr) (xs : List Int32) : MetFree l x (headSpec (Jvm.Cond.code x code maxLocals ret :: tables_1) room_1) (lw_P b xs) (fun _ _ _ _ _ => True) lw_Q := by
  refine MetFree.of_bodyS (code := code) (maxLocals := maxLocals) (ret := ret) (by decide) ?_ ?_
  · intro args s m h hn
    obtain ⟨meth, c, h1, h2, h3, h4, h5, h6, -, -⟩ := Cond.code_spec hn (atoms_spec (ws := Jvm.Cond.code x code maxLocals ret :: tables_1) h _ List.mem_cons_self)
    exact ⟨meth, c, h1, h2, h3, h4, h5, h6⟩
  · intro p e s m args below meth c s₁ B hml0 hP _
    obtain ⟨rfl, hx, hbd, hgv⟩ := hP
    obtain ⟨scr, harrAt, hlist, hof, hsmall⟩ := hx
    obtain ⟨hcb, hkn, -, -⟩ := State.arrayAt?_spec harrAt
    have hown : s.vm.findClass R_law = some m.cls := findClass_of_methodNamed B.named
    have hts0 : ∀ c ∈ (Jvm.Cond.code x code maxLocals ret :: tables_1), c.before #[Value.ref b] s = true := atoms_spec (ws := Jvm.Cond.code x code maxLocals ret :: tables_1) B.pre
    have hts : ∀ w ∈ lw_tbl, w.before #[Value.ref b] s = true := k2_hts_sels lw_privs (fun w hw => hts0 w (List.mem_cons_of_mem _ hw)) lw_privs_ok
    have hml : c.maxLocals = 4 := B.maxLocals_eq (hts0 _ List.mem_cons_self)
    have X₀ : Stand p l e room_1 s m #[Value.ref b] below meth c s₁ [] 0 0 := Stand.of_body B
    have hh0 : s₁.heap = s.heap := by rw [B.state]; rfl
    have hsz : scr.slots.size = xs.length := by rw [← Array.length_toList, hlist, List.length_map]
    have hval : ∀ j : Nat, j < xs.length → scr.slots[j]? = some (.int (xs.getD j 0)) := fun j hj => by
      rw [← Array.getElem?_toList, hlist]
      simp [hj]
    have hbl : b < s.heap.size := (Array.getElem?_eq_some_iff.mp hcb).1
    have hX : va_X b xs.length (fun j => xs.getD j 0) s s.heap := ⟨scr, hcb, hof, hkn, hsz, hval⟩
    have K : W p l e room_1 s m #[Value.ref b] below meth c s₁.heap [] 0 0 (lw_Z below #[Value.ref b] s) (entryFrame m ([Value.ref b] : List Value).toArray 4) := by
      rw [hh0]
      exact whole_start l hbd ⟨B.exec, B.bytes, B.returns, hml, hown, hts, hX, hbl, B.notSynchronized, hgv⟩
    obtain ⟨t, a1, o, b1, b2, b3⟩ := K s₁ rfl X₀
    exact ⟨t, o, a1, b1, b2, b3⟩
theorem lw_pre_spec {args : Array Value} {s : State} (h : (Jvm.Cond.and given_1 narrow_1).before args s = true) (hr : rest_1_c.before args s = true) : ∃ (b : Addr) (xs : List Int32), lw_P b xs args s := by
  have hs := flat_of_before _ h
  have hq := flat_of_before _ hr
  have hc : (Cond.count 1).before args s = true := hs _ (by decide +kernel)
  have harr : (Cond.arrayOf (.arg 0) .int).before args s = true := hs _ (by decide +kernel)
  have hle : (Cond.le (.length (.arg 0)) (.int 5)).before args s = true := hs _ (by decide +kernel)
  have hlen : (Cond.isInt (.length (.arg 0))).before args s = true := hq _ (by decide +kernel)
  have hall : (Cond.all (.arg 0) (.isInt (.elem (.arg 0) (.index 0)))).before args s = true := hq _ (by decide +kernel)
  obtain ⟨b, xs, hb, hx⟩ := State.ints_of_pre rfl harr hlen hall
  have hsm : xs.length < 2 ^ 31 := hx.choose_spec.2.2.2
  have hev : (Term.length (.arg 0)).eval args s none [] s = some (.int xs.length.toInt32) := hx.length_eval hb
  have hv := Cond.le_ints hev (show (Term.int 5).eval args s none [] s = some (.int 5) from rfl)
  have hd : xs.length.toInt32 ≤ 5 := by
    simpa [Cond.before, Cond.holds, hv] using hle
  have hN : xs.length ≤ 5 := (Int32.ofNat_le_ofNat hsm (by decide)).mp (show Int32.ofNat xs.length ≤ Int32.ofNat 5 from hd)
  exact ⟨b, xs, Cond.one_arg hc (show args[0]? = some (.ref b) from hb), hx, hN, h⟩
theorem lw_comes (l : Launch) : Comes l x (Jvm.Cond.code x code maxLocals ret :: tables_1) room_1 (fun tb e args s => Calls_1 tb e args s ∧ rest_1 tb e args s ∧ Pre_1 tb e args s)
    (fun _ _ args s o t => lw_Q args s o t) := by
  intro p e ha hc hk s m args below hf hfit hheap happ hpre
  obtain ⟨b, xs, hP⟩ := lw_pre_spec hpre.2.2 hpre.2.1
  obtain ⟨k, o, h1, h2, h3, hQ⟩ := lw_walk l b xs p e ha hc hk s m args below hf ((Spec.applies_iff_loose hf).mp happ).1 hP trivial
  exact ⟨k, o, h1, h2, h3, hQ⟩
theorem lw_frame {s t : State} {o : Outcome} {args : Array Value} (h : Framed s o t [] 600000 7302250) :
    Framed s o t (fieldLocs frame_1_writes args s ++ arrayLocs frame_1_arrays args s ++ staticLocs frame_1_statics s) 600000 7302250 := h
theorem lw_limb (L : Cond) (hL : ∀ (args : Array Value) (s t : State), L.after args s (.returned (some (.int 1))) t = true) :
    ArmFor flags0 classFile x code maxLocals ret World_1 tables_1 room_1 Calls_1 rest_1 Pre_1
      (fun tb e a s o t => postC L tb e a s o t ∧ Framed s o t (fieldLocs frame_1_writes a s ++ arrayLocs frame_1_arrays a s ++ staticLocs frame_1_statics s) 600000 7302250) := by
  intro l _ _ _ p e ha hc hk s m args below hf hfit hheap happ hpre
  obtain ⟨k, o, h1, h2, h3, rfl, hF⟩ := lw_comes l p e ha hc hk s m args below hf hfit hheap happ hpre
  exact ⟨k, _, h1, h2, h3, hL args s _, lw_frame hF⟩
theorem i_vc : Claimed_1_1 ∧ Claimed_1_2 := ⟨lw_limb limb_1_1 (fun args s t => by simp [limb_1_1, Cond.after, Cond.holds, Cond.value]), lw_limb limb_1_2 (fun args s t => Cond.after_iff.mpr (by
  first | (rw [show limb_1_2 = Cond.eq .result (.int 1) from rfl, Cond.eq_ints (x := 1) (y := 1) rfl rfl]; simp; done) | (simp [limb_1_2, Cond.value, Term.eval]; done)))⟩
