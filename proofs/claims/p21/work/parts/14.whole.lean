/-! THE CLAIM OUT OF ONE WALK OF THE LAW'S BODY. Your part is whole_start (and what it stands on); all else here is the same for every law, but numbers. -/
def R_law : String := "NameHallLaw"
def lw_P (b : Addr) (xs : List Int32) (args : Array Value) (s : State) : Prop := args = #[.ref b] ∧ s.IntsAt b xs ∧ xs.length ≤ 320 ∧ (Jvm.Cond.and given_1 narrow_1).before args s = true
def lw_Q (_ : Array Value) (s : State) (o : Outcome) (t : State) : Prop := o = .returned (some (.int 1)) ∧ Framed s o t [] 600000 7302250
def lw_Z (below : List Frame) (a : Array Value) (s : State) : State → Prop := fun t => ∃ o, t.status = .running ∧ Ended t below o ∧ lw_Q a s o t
/-- the law's own end, with 1 on the stack, nothing written that was there before, its room as the claim has it -/
theorem lw_ret {p : Program} {l : Launch} {e : Env} {s : State} {m : MethodId} {below : List Frame} {meth : Method} {c : Code} {b : Nat} (hx : p.tables.exec = Jvm.exec) (hb : c.code = code) (hr : meth.sig.returnType = ret) (hlocks : meth.locks = false) {pc : Nat} {H : Heap} {ls : Array Slot} (hdg : decode code pc = .ok (.ireturn, 1)) : W p l e room_1 s m #[Value.ref b] below meth c H [] 600000 7302250 (lw_Z below #[Value.ref b] s) (F0 m pc ls [.int 1]) := by
  intro T hT X
  obtain ⟨fs, hret, hrun, hended, hW, hframe⟩ := X.leave (v := some (.int 1)) (hlocks := hlocks) (fun h => by rw [hr] at h; cases h)
  have hmeth' : T.vm.method? m = some meth := X.method'
  refine ⟨T.setFrames fs, ?_, .returned (some (.int 1)), hrun, hended, rfl, ⟨_, rfl⟩, hW, hframe⟩
  jvm_step X.here [X.here.top, hx, hb, hdg, hmeth', hr, ret, narrow_b1]
  (try refine ⟨rfl, ?_⟩); (try refine ⟨rfl, ?_⟩)
  first | (intro acts; rw [hret _ acts rfl rfl rfl]) | rw [hret _ _ rfl rfl rfl]
  exact Steps.refl _
/-- what holds at the law's entry: the machine, the code, the tables' words (any of lw_tbl by 'hts w (by decide +kernel)'), the script of L ints xs at the cell b, what the Statement gives of the start (any of its parts by flat_of_before) -/
def lw_At (p : Program) (s : State) (m : MethodId) (meth : Method) (c : Code) (b L : Nat) (xs : Nat → Int32) : Prop :=
  p.tables.exec = Jvm.exec ∧ c.code = code ∧ meth.sig.returnType = ret ∧ c.maxLocals = 4 ∧ s.vm.findClass R_law = some m.cls ∧ (∀ w ∈ lw_tbl, w.before #[Value.ref b] s = true) ∧ va_X b L xs s s.heap ∧ b < s.heap.size ∧ meth.locks = false ∧ (Jvm.Cond.and given_1 narrow_1).before #[Value.ref b] s = true
theorem ev_tk {own : String} {cc : ByteArray} {t : ev_T} (k : Nat) (h1 : ev_tok own cc ((t.drop k).take 4) = true) (h2 : ev_tok own cc (t.drop (k + 4)) = true) : ev_tok own cc (t.drop k) = true := by
  unfold ev_tok at h1 h2 ⊢
  rw [← List.take_append_drop 4 (t.drop k), List.all_append, h1, List.drop_drop, h2]
  rfl
set_option maxRecDepth 100000 in
theorem ev_lawtok : ev_tok "NameHallLaw" code ev_t202 = true := (ev_tk 0 ev_lk0 (ev_tk 4 ev_lk1 (ev_tk 8 ev_lk2 (ev_tk 12 ev_lk3 (ev_tk 16 ev_lk4 (ev_tk 20 ev_lk5 (ev_tk 24 ev_lk6 (ev_tk 28 ev_lk7 (ev_tk 32 ev_lk8 (ev_tk 36 ev_lk9 (ev_tk 40 ev_lk10 (ev_tk 44 ev_lk11 (ev_tk 48 ev_lk12 (ev_tk 52 ev_lk13 (ev_tk 56 ev_lk14 (ev_tk 60 ev_lk15 (by decide +kernel)))))))))))))))))
theorem ev_instw : ∀ q ∈ vwCl, Cond.instantiable q.1 q.2.2 ∈ lw_tbl := by decide +kernel
theorem ev_nestw : ∀ w ∈ ev_nest, w ∈ lw_tbl := by decide +kernel
theorem ev_aow : Cond.arrayOver (.array .int) ∈ lw_tbl := by decide +kernel
theorem ev_clen : vwCl.length = ev_tys.length := by decide +kernel
theorem ev_arrK {args : Array Value} {s : State} {ty : FieldType} (h : (Cond.arrayClass ty).before args s = true) : ∃ c : ClassId, ArrOfT s c ty ∧ s.vm.findClass ("[" ++ ty.toString) = some c := by
  obtain ⟨c, k, comp, h1, h2, h3⟩ := Cond.arrayClass_spec h
  exact ⟨c, fun n z => ⟨fun k h => (by cases h), k, h2, comp, h3⟩, h1⟩
theorem ev_K0 {args : Array Value} {s : State} (hts : ∀ w ∈ lw_tbl, w.before args s = true) : ∃ (D : va_G) (cy : Nat → ClassId), ev_K D cy s := by
  have hts2 : ∀ w ∈ ev_tb, w.before args s = true := fun w hw => hts w (List.mem_filter.mp hw).1
  have hk : ∀ ci : Nat, ∃ d : ClassId × (Nat → Nat), ∀ q : vw_C, vwCl[ci]? = some q → u_Kn s q.1 q.2.1 q.2.2 d.1 d.2 := by
    intro ci
    cases hq : vwCl[ci]? with
    | none => exact ⟨(0, fun _ => 0), fun q h => by cases h⟩
    | some q =>
      have hlt : ci < ev_tys.length := by rw [← ev_clen]; exact (List.getElem?_eq_some_iff.mp hq).1
      obtain ⟨hin, -, -, -⟩ := ev_cl ci q (ev_tys[ci]'hlt) hq (List.getElem?_eq_getElem hlt)
      obtain ⟨cC, iS, h⟩ := u_known (C := q.1) (T := q.2.1) (N := q.2.2) (n := q.2.2) hts2 hin (hts _ (ev_instw q (List.mem_of_getElem? hq)))
      exact ⟨(cC, iS), fun q' h' => by cases h'; exact h⟩
  obtain ⟨c0, a0, f0⟩ := ev_arrK (hts2 _ ev_gAi)
  obtain ⟨c1, a1, f1⟩ := ev_arrK (hts2 _ ev_gAc)
  obtain ⟨c2, a2, f2⟩ := ev_arrK (hts2 _ ev_gAz)
  have hao := hts _ ev_aow
  obtain ⟨comp, c3, k3, g1, g2, g3, g4, g5⟩ := arrayOverA_spec hao
  refine ⟨(fun ci => (Classical.choose (hk ci)).1, fun ci => (Classical.choose (hk ci)).2), fun k => match k with | 0 => c0 | 1 => c1 | 2 => c2 | _ => c3, ⟨fun ci q h => Classical.choose_spec (hk ci) q h, ?_⟩, ?_, hao⟩
  · intro k q h
    match k, h with
    | 0, h => cases h; exact ⟨a0, f0⟩
    | 1, h => cases h; exact ⟨a1, f1⟩
    | 2, h => cases h; exact ⟨a2, f2⟩
    | 3, h => cases h; exact ⟨fun n z => ⟨fun k h => (by cases h), k3, g3, comp, g4⟩, g5⟩
    | k + 4, h => simp [ev_ty4] at h
  · intro w hw
    exact va_tabs (ev_nest_on w hw) rfl (hts w (ev_nestw w hw))
set_option maxHeartbeats 4000000 in
/-- what ev answers of the law, the law answers -/
theorem ev_whole {p : Program} {e : Env} {s : State} {m : MethodId} {below : List Frame} {meth : Method} {c : Code} (l : Launch) {b L : Nat} {xs : Nat → Int32} (C0 : lw_At p s m meth c b L xs) {n : Nat} {hp' : ev_H}
    (h : ev n (some ((List.range L).map xs)) (ev_law 600000 7302250) 0 [(0, .retAddr 0)] [] [] 0 0 = some (some (.int 1), hp')) : W p l e room_1 s m #[Value.ref b] below meth c s.heap [] 0 0 (lw_Z below #[Value.ref b] s) (entryFrame m ([Value.ref b] : List Value).toArray 4) := by
  obtain ⟨hx, hb, hr, hml, hown, hts, hX, hbl, hlocks, hgv⟩ := C0
  obtain ⟨D, cy, hK⟩ := ev_K0 hts
  rw [lg_entry_eq]
  have hl := lv_entry ([Value.ref b]) (n := 4) (Nat.le_of_ble_eq_true rfl)
  generalize (lg_sl ([Value.ref b]) ++ List.replicate (4 - (lg_sl ([Value.ref b])).length) Slot.unset).toArray = ls at hl ⊢
  have hl : lv_has ls 4 (ev_lm s.heap.size b [(0, .retAddr 0)]) := hl
  refine ev_sound n _ _ _ _ _ _ _ _ _ _ _ _ _ _ _ _ _ _ _ h p l e room_1 s m #[Value.ref b] below meth c s.heap [] _ code R_law D cy s.heap.size b ls hx hb hml hown (fun w hw => hts w (List.mem_filter.mp hw).1) rfl rfl rfl rfl hK ⟨fun k q h => by simp [ev_w] at h, rfl⟩ va_S.rf ?_ (fun k h => by cases h) ev_lawtok hl (Nat.zero_le _) (Nat.zero_le _) ?_
  · intro xs' h'
    cases h'
    refine ⟨?_, hbl, hbl⟩
    obtain ⟨scr, h1, h2, h3, h4, h5⟩ := hX
    refine ⟨scr, h1, h2, h3, by simp [h4], fun j hj => ?_⟩
    have hj : j < L := by simpa using hj
    rw [h5 j hj]
    simp [hj]
  · intro pc' i H' locs' ls' hP' hS' hd hrok
    obtain ⟨rfl, -⟩ := ev_rok_i hrok
    exact va_forget (fun q hq => hS'.2.2 q hq) (lw_ret hx hb hr hlocks hd)
