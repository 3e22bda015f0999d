theorem ev_rok_st {rt : Nat} {i : Instr} {st : List Value} {rv : Option Value} (h : ev_rok rt i st = some rv) : st = rv.toList ∧ ev_len i = 1 ∧ ∀ d lo hi o, i ≠ .tableswitch d lo hi o := by
  unfold ev_rok at h
  split at h
  · split at h
    · split at h
      · cases h; exact ⟨rfl, rfl, fun _ _ _ _ q => by cases q⟩
      · split at h
        · cases h; exact ⟨rfl, rfl, fun _ _ _ _ q => by cases q⟩
        · cases h
      · split at h
        · cases h; exact ⟨rfl, rfl, fun _ _ _ _ q => by cases q⟩
        · cases h
      · cases h
    · cases h
  · split at h
    · split at h
      · cases h; exact ⟨rfl, rfl, fun _ _ _ _ q => by cases q⟩
      · cases h
    · cases h
  · split at h
    · split at h
      · cases h; exact ⟨rfl, rfl, fun _ _ _ _ q => by cases q⟩
      · cases h
    · cases h
  · cases h
theorem ev_rok_n {rt : Nat} {i : Instr} (h : ev_rok rt i [] = some none) : i = .return_ ∧ rt = 0 := by
  unfold ev_rok at h
  split at h
  · cases h
  · cases h
  · dsimp only at h
    split at h
    · exact ⟨rfl, rfl⟩
    · cases h
  · cases h
theorem ev_rok_i {rt : Nat} {i : Instr} {x : Int32} (h : ev_rok rt i [.int x] = some (some (.int x))) : i = .ireturn ∧ (rt = 1 ∨ (rt = 2 ∧ (x = 0 ∨ x = 1)) ∨ (rt = 3 ∧ narrow .char (.int x) = .int x)) := by
  unfold ev_rok at h
  split at h
  · dsimp only at h
    split at h
    · exact ⟨rfl, Or.inl rfl⟩
    · split at h
      · rename_i hq; exact ⟨rfl, Or.inr (Or.inl ⟨rfl, hq⟩)⟩
      · cases h
    · split at h
      · rename_i hq; exact ⟨rfl, Or.inr (Or.inr ⟨rfl, hq⟩)⟩
      · cases h
    · cases h
  · cases h
  · cases h
  · cases h
theorem ev_rok_l {rt : Nat} {i : Instr} {x : Int64} (h : ev_rok rt i [.long x] = some (some (.long x))) : i = .lreturn ∧ rt = 4 := by
  unfold ev_rok at h
  split at h
  · cases h
  · dsimp only at h
    split at h
    · exact ⟨rfl, rfl⟩
    · cases h
  · cases h
  · cases h
theorem ev_rok_x {rt : Nat} {i : Instr} {v : Value} {r : Option Value} (h1 : ∀ x, v ≠ .int x) (h2 : ∀ x, v ≠ .long x) (h : ev_rok rt i [v] = some r) : False := by
  unfold ev_rok at h
  split at h
  · split at h
    · rename_i hq
      cases hq
      exact h1 _ rfl
    · cases h
  · split at h
    · rename_i hq
      cases hq
      exact h2 _ rfl
    · cases h
  · cases h
  · cases h
set_option maxHeartbeats 4000000 in
theorem ev_met {n : Nat} (IH : ev_Snd n) {a rt ini mx na rc fr lo mc ms : Nat} {t : ev_T} {y : MethodName} {cc : ByteArray} {ret : Option FieldType} {p1 p2 p3 p4 : Nat} (hr : ev_ms a = some ((rt, ini, mx, na, rc, fr, lo, mc, ms, t), y, cc, ret, p1, p2, p3, p4)) {as : List Value} {hp hp' : ev_H} {rv : Option Value}
    (h : ev n none (rt, ini, mx, na, rc, fr, lo, mc, ms, t) 0 (lv_args 0 as) [] hp 0 0 = some (rv, hp')) (hsum : ev_sum as ≤ mx) (l : Launch) (D : va_G) (cy : Nat → ClassId) (b0 b : Nat) :
    Met l y (.code y cc mx ret :: ev_tb) { frames := fr, cells := mc, slots := ms, locals := lo } (va_Pc (as.map (ev_v b0 b)) (fun U => ev_P D cy b0 b hp U.heap ∧ ev_K D cy U)) (ev_Q D cy b0 b rv hp') mc ms (ev_A b0) := by
  obtain ⟨hrow, hnm⟩ := ev_ms_ok hr
  unfold ev_rowok at hrow
  rw [Bool.and_eq_true] at hrow
  obtain ⟨hrw, htk⟩ := hrow
  obtain ⟨w1, w2, hpl, w4, w5, w6, hrt, w8, w9⟩ := ev_rw_ok hrw
  refine ev_ofW (cc := cc) (maxL := mx) (ret := ret) hpl rfl ?_
  intro p e s m args below meth c s₁ B hml hv
  obtain ⟨rfl, hP, hK⟩ := hv
  have hx := B.exec
  have hb := B.bytes
  have hret := B.returns
  have hts := atoms_spec (ws := .code y cc mx ret :: ev_tb) B.pre
  have hown : s.vm.findClass y.cls = some m.cls := findClass_of_methodNamed B.named
  have hlocks := B.notSynchronized
  have hname : meth.name = y.name := (name_of_methodNamed B.named B.method).1
  rw [lg_entry_eq]
  have hl := lv_entry (as.map (ev_v b0 b)) (n := mx) (by rw [ev_sl_len, ev_sum_m]; exact hsum)
  generalize (lg_sl (as.map (ev_v b0 b)) ++ List.replicate (mx - (lg_sl (as.map (ev_v b0 b))).length) Slot.unset).toArray = ls at hl ⊢
  rw [ev_args_m] at hl
  refine IH none rt ini mx na rc fr lo mc ms t 0 (lv_args 0 as) [] hp 0 0 rv hp' h p l e _ s m _ below meth c s.heap [] _ cc y.cls D cy b0 b ls hx hb hml hown (fun w hw => hts w (List.mem_cons_of_mem _ hw)) rfl rfl rfl rfl hK hP va_S.rf (fun xs q => by cases q) ?_ htk hl (Nat.zero_le _) (Nat.zero_le _) ?_
  · intro k hk
    cases rc with
    | zero => have := (w8 rfl).2; omega
    | succ j =>
      obtain ⟨g1, g2, g3, q, g4, g5⟩ := w9 j rfl
      obtain ⟨e1, e2, e3⟩ := g3 k hk
      subst e1
      exact ⟨hname.trans e2, q, g4, g5⟩
  · intro pc' i H' locs' ls' hP' hS' hd hrok
    cases rv with
    | none =>
      obtain ⟨rfl, rfl⟩ := ev_rok_n hrok
      have hr0 : ret = none := of_decide_eq_true hrt
      exact W.vret hx hb (hret.trans hr0) (fun t9 ht hW => ⟨⟨(), rfl, trivial, by show ev_P D cy b0 b hp' t9.heap; rw [ht]; exact hP'⟩, hS'.F ht⟩) hS'.2.2 hd
    | some v =>
      cases v with
      | int x =>
        obtain ⟨rfl, hrr⟩ := ev_rok_i hrok
        rcases hrr with rfl | ⟨rfl, hq⟩ | ⟨rfl, hq⟩
        · have hr0 : ret = some .int := of_decide_eq_true hrt
          exact W.iret hx hb (hret.trans hr0) (fun t9 ht hW => ⟨⟨x, (), rfl, rfl, by show ev_P D cy b0 b hp' t9.heap; rw [ht]; exact hP'⟩, hS'.F ht⟩) hS'.2.2 hd
        · have hr0 : ret = some .boolean := of_decide_eq_true hrt
          exact W.zret hx hb (hret.trans hr0) (by rcases hq with rfl | rfl <;> rfl) (fun t9 ht hW => ⟨⟨x, (), rfl, rfl, by show ev_P D cy b0 b hp' t9.heap; rw [ht]; exact hP'⟩, hS'.F ht⟩) hS'.2.2 hd
        · have hr0 : ret = some .char := of_decide_eq_true hrt
          exact W.zret hx hb (hret.trans hr0) hq (fun t9 ht hW => ⟨⟨x, (), rfl, rfl, by show ev_P D cy b0 b hp' t9.heap; rw [ht]; exact hP'⟩, hS'.F ht⟩) hS'.2.2 hd
      | long x =>
        obtain ⟨rfl, rfl⟩ := ev_rok_l hrok
        have hr0 : ret = some .long := of_decide_eq_true hrt
        exact W.lret hx hb (hret.trans hr0) (fun t9 ht hW => ⟨⟨x, (), rfl, rfl, by show ev_P D cy b0 b hp' t9.heap; rw [ht]; exact hP'⟩, hS'.F ht⟩) hS'.2.2 hd
      | _ => exact (ev_rok_x (fun _ q => by cases q) (fun _ q => by cases q) hrok).elim
theorem ev_ka {i : Instr} {bb : Nat} (h : ev_k i bb = some 0) : (∃ idx, i = .invokevirtual idx) ∨ (∃ idx, i = .invokestatic idx ∧ bb = 0) ∨ (∃ idx, i = .invokespecial idx ∧ bb ≠ 0) := by
  unfold ev_k at h
  split at h
  · exact Or.inl ⟨_, rfl⟩
  · split at h
    · exact Or.inr (Or.inl ⟨_, rfl, rfl⟩)
    · cases h
  · split at h
    · cases h
    · rename_i hq; exact Or.inr (Or.inr ⟨_, rfl, fun z => hq z⟩)
  · cases h
theorem ev_kb {i : Instr} {bb : Nat} (h : ev_k i bb = some 1) : ∃ idx, i = .invokespecial idx ∧ bb = 0 := by
  unfold ev_k at h
  split at h
  · cases h
  · split at h <;> cases h
  · split at h
    · exact ⟨_, rfl, rfl⟩
    · cases h
  · cases h
theorem ev_kc {i : Instr} {bb : Nat} (h : ev_k i bb = some 2) : ∃ idx, i = .invokestatic idx ∧ bb ≠ 0 := by
  unfold ev_k at h
  split at h
  · cases h
  · split at h
    · cases h
    · rename_i hq; exact ⟨_, rfl, fun z => hq z⟩
  · split at h <;> cases h
  · cases h
theorem ev_ar_0 {na : Nat} {st as r : List Value} {hp : ev_H} (h : ev_ar 0 na st hp = some (as, r)) : na ≤ st.length ∧ as = (st.take na).reverse ∧ r = st.drop na := by
  unfold ev_ar at h
  dsimp only at h
  split at h
  · rename_i hq; cases h; exact ⟨hq, rfl, rfl⟩
  · cases h
theorem ev_ar_s {c na : Nat} {st as r : List Value} {hp : ev_H} (h : ev_ar (c + 1) na st hp = some (as, r)) : ∃ (q : Nat) (fs : List Value), st.drop na = .ref q :: r ∧ hp[q]? = some (.inr (.inr (c, fs))) ∧ as = .ref q :: (st.take na).reverse := by
  unfold ev_ar at h
  dsimp only at h
  split at h
  · rename_i q r9 hd
    split at h
    · rename_i o ho
      split at h
      · rename_i hq
        cases h
        obtain ⟨oc, ofs⟩ := o
        have := ev_beq hq
        have e : oc = c := this
        subst e
        exact ⟨q, ofs, hd, ho, rfl⟩
      · cases h
    · cases h
  · cases h
theorem ev_stk {b0 b na : Nat} {st : List Value} : st.map (ev_v b0 b) = (((st.take na).reverse.map (ev_v b0 b)).reverse) ++ (st.drop na).map (ev_v b0 b) := by
  rw [← List.map_reverse, List.reverse_reverse, ← List.map_append, List.take_append_drop]
theorem ev_blind (D : va_G) (cy : Nat → ClassId) (b0 b : Nat) (hp : ev_H) (av : List Value) : FrameBlind (va_Pc av (fun U => ev_P D cy b0 b hp U.heap ∧ ev_K D cy U)) := fun a U g mk q => ⟨q.1, q.2.1, q.2.2.calling⟩
