/-! new cells and arraycopy -/
theorem ev_P.push {D : va_G} {cy : Nat → ClassId} {b0 b : Nat} {hp cs : ev_H} {H H1 : Heap} (h : ev_P D cy b0 b hp H) (ho : ∀ x : Nat, x < H.size → H1[x]? = H[x]?) (hz : H1.size = H.size + cs.length) (hn : ∀ (i : Nat) (c : ev_C), cs[i]? = some c → va_at D vwCl (b0 + (hp.length + i), ev_c b0 b cy c) H1) : ev_P D cy b0 b (hp ++ cs) H1 := by
  refine ⟨?_, by rw [hz, h.2, List.length_append]; omega⟩
  rw [ev_w_app]
  refine (h.1.kept (fun k x hx => ho x.1 ((h.1 k x hx).lt))).app (fun k x hx => ?_)
  simp only [List.getElem?_mapIdx] at hx
  cases hc : cs[k]? with
  | none => rw [hc] at hx; cases hx
  | some c0 => rw [hc] at hx; cases hx; exact hn k c0 hc
theorem ev_S_push {A : Nat → Prop} {H0 H H1 : Heap} {locs : List Loc} (hS : va_S A H0 H locs) (hz : H.size ≤ H1.size) (ho : ∀ x : Nat, x < H.size → H1[x]? = H[x]?) : va_S A H0 H1 locs :=
  ⟨Nat.le_trans hS.1 hz, fun x h1 h2 => (ho x (Nat.lt_of_lt_of_le h1 hS.1)).trans (hS.2.1 x h1 h2), hS.2.2⟩
theorem ev_repl (n j : Nat) : (List.replicate n (0 : Int32)).getD j 0 = 0 := by
  rw [List.getD_eq_getElem?_getD, List.getElem?_replicate]
  by_cases h : j < n <;> simp [h]
theorem ev_zero (cA : ClassId) (n t : Nat) (b0 b : Nat) (cy : Nat → ClassId) : arrV (cy t) n (fun _ => Value.int 0) = vp_cell (cy t) ((List.replicate n (0 : Int32)).length, .inl (fun i => (List.replicate n (0 : Int32)).getD i 0)) := by
  rw [vp_cell_i, List.length_replicate]
  congr 1
  funext j
  rw [ev_repl]
section EV3
variable {p : Program} {l : Launch} {e : Env} {R : Room} {s : State} {m : MethodId} {args : Array Value} {below : List Frame} {meth : Method} {c : Code} {H : Heap} {locs : List Loc} {cells slots : Nat} {Q : State → Prop}
variable {cc : ByteArray} {pc : Nat} {ls : Array Slot} {b0 b : Nat} {D : va_G} {cy : Nat → ClassId} {hp : ev_H} {rest : List Value}
theorem ev_rnew (hx : p.tables.exec = Jvm.exec) (hb : c.code = cc) {own : String} (hown : s.vm.findClass own = some m.cls) (hts : ∀ w ∈ ev_tb, w.before args s = true) (hK : va_K D vwCl (ev_ty4 cy) s) (hP : ev_P D cy b0 b hp H) (hS : va_S (ev_A b0) s.heap H locs)
    {a index : Nat} {qc : vw_C} {ty : Nat → FieldType} (hc : vwCl[a]? = some qc) (ht : ev_tys[a]? = some ty) (w1 : Cond.classLink own index qc.1 ∈ ev_tb) (w2 : Cond.instantiable qc.1 qc.2.2 ∈ ev_tb) (w3 : Cond.initialized qc.1 ∈ ev_tb) (hcells : cells + 1 ≤ R.cells) (hslots : slots + qc.2.2 ≤ R.slots) (hdg : decode cc pc = .ok (.new index, 3))
    (kk : ∀ H1 : Heap, ev_P D cy b0 b (hp ++ [.inr (.inr (a, (List.range qc.2.2).map (fun k => defaultValue (ty k))))]) H1 → va_S (ev_A b0) s.heap H1 locs → W p l e R s m args below meth c H1 locs (cells + 1) (slots + qc.2.2) Q (F0 m (pc + 3) ls (.ref (b0 + hp.length) :: rest))) : W p l e R s m args below meth c H locs cells slots Q (F0 m pc ls rest) := by
  obtain ⟨C, T, N⟩ := qc
  obtain ⟨hin, hty, hnm, hdecl⟩ := ev_cl a _ ty hc ht
  have hKn := hK.1 a _ hc
  refine W.newcK hx hb hown (hts _ w1) (hts _ w2) (hts _ w3) rfl hdg hcells hslots hKn.2.1 hP.2 fun H1 kC hkC e1 z1 o1 => ?_
  have o1' : ∀ x : Nat, x < H.size → H1[x]? = H[x]? := fun x hx => o1 x (by rw [← hP.2]; exact hx)
  refine kk H1 (hP.push o1' (by rw [z1, hP.2]; rfl) (fun i c0 hi => ?_)) (ev_S_push hS (by rw [z1, hP.2]; omega) o1')
  have hz : i < 1 := (List.getElem?_eq_some_iff.mp hi).1
  rw [show i = 0 by omega] at hi ⊢
  cases hi
  refine ⟨_, hc, (u_born ty hts hin hKn hkC e1 hty).to (fun j hj => ?_)⟩
  have hj : j < N := hj
  simp [vp_V, hj, ev_v_def]
theorem ev_rnewa (hx : p.tables.exec = Jvm.exec) (hb : c.code = cc) (hK : va_K D vwCl (ev_ty4 cy) s) (hP : ev_P D cy b0 b hp H) (hS : va_S (ev_A b0) s.heap H locs)
    {at9 : ArrayType} {t : Nat} {ty : FieldType} {n : Int32} (harr : (Cond.arrayClass (newarray.typeOf at9)).before args s = true) (ht : (ev_ty4 cy)[t]? = some (cy t, newarray.typeOf at9)) (hra : va_RA s (cy t) (newarray.typeOf at9) = (s.vm.findClass ("[" ++ (newarray.typeOf at9).toString) = some (cy t))) (hdv : defaultValue (newarray.typeOf at9) = .int 0) (hn : ¬ n < 0) (hbytes : n.toNatClampNeg * componentBytes (newarray.typeOf at9) ≤ 536870912)
    (hcells : cells + 1 ≤ R.cells) (hslots : slots + n.toNatClampNeg ≤ R.slots) (hdg : decode cc pc = .ok (.newarray at9, 2))
    (kk : ∀ H1 : Heap, ev_P D cy b0 b (hp ++ [.inl (t, List.replicate n.toNatClampNeg 0)]) H1 → va_S (ev_A b0) s.heap H1 locs → W p l e R s m args below meth c H1 locs (cells + 1) (slots + n.toNatClampNeg) Q (F0 m (pc + 2) ls (.ref (b0 + hp.length) :: rest))) : W p l e R s m args below meth c H locs cells slots Q (F0 m pc ls (.int n :: rest)) := by
  refine va_newaK hx hb harr rfl hdg rfl hn rfl hbytes hcells hslots hP.2 fun H1 cA e1 z1 o1 hAr hNm => ?_
  have hcy : s.vm.findClass ("[" ++ (newarray.typeOf at9).toString) = some (cy t) := by
    have := (hK.2 t _ ht).2
    rw [hra] at this
    exact this
  have hE : cA = cy t := Option.some.inj (hNm.symm.trans hcy)
  subst hE
  have o1' : ∀ x : Nat, x < H.size → H1[x]? = H[x]? := fun x hx => o1 x (by rw [← hP.2]; exact hx)
  refine kk H1 (hP.push o1' (by rw [z1, hP.2]; rfl) (fun i c0 hi => ?_)) (ev_S_push hS (by rw [z1, hP.2]; omega) o1')
  have hz : i < 1 := (List.getElem?_eq_some_iff.mp hi).1
  rw [show i = 0 by omega] at hi ⊢
  cases hi
  show H1[b0 + (hp.length + 0)]? = some (vp_cell _ _)
  rw [hdv] at e1
  rw [Nat.add_zero, e1, ev_zero (cy t) n.toNatClampNeg t b0 b cy]
theorem ev_rmna (hx : p.tables.exec = Jvm.exec) (hb : c.code = cc) {own : String} (hown : s.vm.findClass own = some m.cls) (hK : va_K D vwCl (ev_ty4 cy) s) (hAO : ev_AO s) (hP : ev_P D cy b0 b hp H) (hS : va_S (ev_A b0) s.heap H locs)
    {index : Nat} {n k : Int32} (w1 : (Cond.classLink own index "[[I").before args s = true) (harr : (Cond.arrayClass .int).before args s = true) (hn : ¬ n < 0) (hk : ¬ k < 0) (hn2 : n.toNatClampNeg ≤ 1000) (hk2 : k.toNatClampNeg ≤ 1000)
    (hcells : cells + (1 + n.toNatClampNeg) ≤ R.cells) (hslots : slots + (n.toNatClampNeg + n.toNatClampNeg * k.toNatClampNeg) ≤ R.slots) (hdg : decode cc pc = .ok (.multianewarray index 2, 4))
    (kk : ∀ H1 : Heap, ev_P D cy b0 b (hp ++ (.inr (.inl ((List.range n.toNatClampNeg).map (fun i => hp.length + 1 + i))) :: List.replicate n.toNatClampNeg (.inl (0, List.replicate k.toNatClampNeg 0)))) H1 → va_S (ev_A b0) s.heap H1 locs → W p l e R s m args below meth c H1 locs (cells + (1 + n.toNatClampNeg)) (slots + (n.toNatClampNeg + n.toNatClampNeg * k.toNatClampNeg)) Q (F0 m (pc + 4) ls (.ref (b0 + hp.length) :: rest))) : W p l e R s m args below meth c H locs cells slots Q (F0 m pc ls (.int k :: .int n :: rest)) := by
  intro T hT Xs
  obtain ⟨vm₁, cA, comp, -, fA, fC, hO, -, X', step⟩ := Jvm.Stand.multianewarray2F Xs hx hown (ty := .int) w1 hAO.use harr (g := F0 m pc ls (.int k :: .int n :: rest)) rfl (by rw [hb]; exact hdg) rfl hn hk (by omega) (by show k.toNatClampNeg * 4 ≤ _; omega) (by omega) rfl rfl hcells hslots
  have hc0 : s.vm.findClass ("[" ++ FieldType.int.toString) = some (cy 0) := (hK.2 0 _ rfl).2
  have hc3 : s.vm.findClass ("[" ++ (FieldType.array .int).toString) = some (cy 3) := (hK.2 3 _ rfl).2
  have ec : comp = cy 0 := Option.some.inj (fC.symm.trans hc0)
  have eA : cA = cy 3 := Option.some.inj (fA.symm.trans hc3)
  subst ec
  subst eA
  generalize hF : Jvm.Free.Multi.fill (T.setVm vm₁) (cy 3) (cy 0) n.toNatClampNeg k.toNatClampNeg (defaultValue .int) n.toNatClampNeg = F at X' step
  have hTh : (T.setVm vm₁).heap = H := hT
  obtain ⟨f1, f2, -, -⟩ := Jvm.Free.Multi.fill_facts (T.setVm vm₁) (cy 3) (cy 0) n.toNatClampNeg k.toNatClampNeg (defaultValue .int) n.toNatClampNeg
  rw [hF, hTh] at f1 f2
  have hold : ∀ x : Nat, x < H.size → F.heap[x]? = H[x]? := fun x hx => by
    have := Jvm.Free.Multi.fill_old (T.setVm vm₁) (cy 3) (cy 0) n.toNatClampNeg k.toNatClampNeg (defaultValue .int) (a := x) (by rw [hTh]; exact hx) n.toNatClampNeg
    rw [hF, hTh] at this
    exact this
  have hrow : ∀ j : Nat, j < n.toNatClampNeg → F.heap[H.size + 1 + j]? = some (Jvm.Free.Multi.innerC (cy 0) k.toNatClampNeg (defaultValue .int)) := fun j hj => by
    have := Jvm.Free.Multi.fill_inner (T.setVm vm₁) (cy 3) (cy 0) n.toNatClampNeg k.toNatClampNeg (defaultValue .int) n.toNatClampNeg j hj
    rw [hF, hTh] at this
    exact this
  have hinn : Jvm.Free.Multi.innerC (cy 0) k.toNatClampNeg (defaultValue .int) = arrV (cy 0) k.toNatClampNeg (fun _ => .int 0) := arrV_new (cy 0) k.toNatClampNeg (.int 0)
  have hout : ∀ i : Nat, Jvm.Free.Multi.outerC (cy 3) n.toNatClampNeg H.size i = arrV (cy 3) n.toNatClampNeg (fun j => va_rf (if j < i then some (H.size + 1 + j) else none)) := by
    intro i
    induction i with
    | zero =>
      show ({ cls := (cy 3), slots := Array.replicate n.toNatClampNeg .null, vm := .none } : Cell) = _
      rw [arrV_new]
      refine congrArg (arrV (cy 3) n.toNatClampNeg) (funext fun j => ?_)
      simp [va_rf]
    | succ i ih =>
      show (Jvm.Free.Multi.outerC (cy 3) n.toNatClampNeg H.size i).setSlot i (.ref (H.size + 1 + i)) = _
      rw [ih, arrV_store]
      refine congrArg (arrV (cy 3) n.toNatClampNeg) (funext fun j => ?_)
      by_cases e : j = i
      · subst e
        simp [updV, va_rf]
      · by_cases h : j < i
        · simp [updV, e, h, Nat.lt_succ_of_lt h]
        · simp [updV, e, h, show ¬ j < i + 1 by omega]
  rw [hout] at f2
  have hsz := hP.2
  have hP2 : ev_P D cy b0 b (hp ++ (.inr (.inl ((List.range n.toNatClampNeg).map (fun i => hp.length + 1 + i))) :: List.replicate n.toNatClampNeg (.inl (0, List.replicate k.toNatClampNeg 0)))) F.heap := by
    refine hP.push hold (by rw [f1]; simp; omega) (fun i c0 hi => ?_)
    cases i with
    | zero =>
      simp only [List.getElem?_cons_zero] at hi
      cases hi
      show F.heap[b0 + (hp.length + 0)]? = some (vp_cell _ _)
      rw [show b0 + (hp.length + 0) = H.size by omega, f2, vp_cell_q]
      congr 1
      rw [List.length_map, List.length_range]
      congr 1
      funext j
      congr 1
      by_cases hj : j < n.toNatClampNeg
      · simp [hj]
        omega
      · simp [hj]
    | succ i =>
      simp only [List.getElem?_cons_succ] at hi
      rw [List.getElem?_replicate] at hi
      by_cases hj : i < n.toNatClampNeg
      · rw [if_pos hj] at hi
        cases hi
        show F.heap[b0 + (hp.length + (i + 1))]? = some (vp_cell _ _)
        rw [show b0 + (hp.length + (i + 1)) = H.size + 1 + i by omega, hrow i hj, hinn, ev_zero (cy 0) k.toNatClampNeg 0 b0 b cy]
      · rw [if_neg hj] at hi
        cases hi
  obtain ⟨t, a1, b1⟩ := kk F.heap hP2 (ev_S_push hS (by rw [f1]; omega) hold) F rfl (by rw [← Nat.add_assoc, ← Nat.add_assoc]; exact X')
  refine ⟨t, step t ?_, b1⟩
  have e : T.heap.size = b0 + hp.length := by rw [hT]; exact hsz
  rw [e]
  exact a1
theorem ev_arrc {cA : ClassId} {N : Nat} {f g : Nat → Value} (h : ∀ j, j < N → f j = g j) : arrV cA N f = arrV cA N g := by
  unfold arrV
  congr 1
  congr 1
  funext j
  exact h j.val j.isLt
theorem ev_cpl {xs ys : List Int32} {sp dp n : Nat} (h4 : sp + n ≤ xs.length) (h5 : dp + n ≤ ys.length) : (ys.take dp ++ ((xs.drop sp).take n ++ ys.drop (dp + n))).length = ys.length := by
  simp only [List.length_append, List.length_take, List.length_drop]
  omega
theorem ev_cpg {xs ys : List Int32} {sp dp n j : Nat} (h4 : sp + n ≤ xs.length) (h5 : dp + n ≤ ys.length) : (ys.take dp ++ ((xs.drop sp).take n ++ ys.drop (dp + n))).getD j 0 = va_cpy (fun i => xs.getD i 0) (fun i => ys.getD i 0) sp dp n j := by
  simp only [List.getD_eq_getElem?_getD, va_cpy]
  by_cases h1 : j < dp
  · rw [List.getElem?_append_left (by simp only [List.length_take]; omega), List.getElem?_take_of_lt h1, if_neg (by omega)]
  · rw [List.getElem?_append_right (by simp only [List.length_take]; omega)]
    have e1 : (ys.take dp).length = dp := by simp only [List.length_take]; omega
    rw [e1]
    by_cases h2 : j < dp + n
    · rw [List.getElem?_append_left (by simp only [List.length_take, List.length_drop]; omega), List.getElem?_take_of_lt (by omega), List.getElem?_drop, if_pos (by omega)]
    · rw [List.getElem?_append_right (by simp only [List.length_take, List.length_drop]; omega), List.getElem?_drop, if_neg (by omega)]
      congr 2
      simp only [List.length_take, List.length_drop]
      omega
theorem ev_rcp (hx : p.tables.exec = Jvm.exec) (hb : c.code = cc) (hml : c.maxLocals = ls.size) {own : String} {index : Nat} (hown : s.vm.findClass own = some m.cls) (hlink : (Cond.methodLink own index arraycopyName).before args s = true) (hnat : (Cond.native arraycopyName).before args s = true) (hstat : (Cond.static arraycopyName).before args s = true) (hini : (Cond.initialized "java/lang/System").before args s = true)
    (hK : va_K D vwCl (ev_ty4 cy) s) (hP : ev_P D cy b0 b hp H) (hS : va_S (ev_A b0) s.heap H locs) {q0 q1 : Nat} {xs ys : List Int32} (ha0 : hp[q0]? = some (.inl (0, xs))) (ha1 : hp[q1]? = some (.inl (0, ys)))
    {sp dp n : Int32} (h1 : ¬ sp < 0) (h2 : ¬ dp < 0) (h3 : ¬ n < 0) (h4 : sp.toNatClampNeg + n.toNatClampNeg ≤ xs.length) (h5 : dp.toNatClampNeg + n.toNatClampNeg ≤ ys.length)
    (hframes : 1 ≤ R.frames) (hlocals : (rest.map fun v => v.category).sum + 18 ≤ R.locals) (hdg : decode cc pc = .ok (.invokestatic index, 3))
    (kk : ∀ (H1 : Heap) (locs1 : List Loc), ev_P D cy b0 b (hp.set q1 (.inl (0, ys.take dp.toNatClampNeg ++ ((xs.drop sp.toNatClampNeg).take n.toNatClampNeg ++ ys.drop (dp.toNatClampNeg + n.toNatClampNeg))))) H1 → va_S (ev_A b0) s.heap H1 locs1 → W p l e R s m args below meth c H1 locs1 cells slots Q (F0 m (pc + 3) ls rest)) : W p l e R s m args below meth c H locs cells slots Q (F0 m pc ls (.int n :: .int dp :: .ref (b0 + q1) :: .int sp :: .ref (b0 + q0) :: rest)) := by
  have nn : ∀ z : Int32, ¬ z < 0 → z.toInt = (z.toNatClampNeg : Int) := by
    intro z hz
    have hz0 : (0 : Int) ≤ z.toInt := by
      have := Int32.not_lt.mp hz
      simpa using Int32.le_iff_toInt_le.mp this
    show z.toInt = ((z.toInt.toNat : Nat) : Int)
    omega
  intro T hT X
  have hc0 : H[b0 + q0]? = some (vp_cell (cy 0) (xs.length, .inl (fun i => xs.getD i 0))) := hP.1 q0 _ (ev_w_at ha0)
  have hc1 : H[b0 + q1]? = some (vp_cell (cy 0) (ys.length, .inl (fun i => ys.getD i 0))) := hP.1 q1 _ (ev_w_at ha1)
  obtain ⟨-, k0, hk0, cm0, hkk0⟩ := (hK.2 0 _ rfl).1 xs.length (fun j => .int (xs.getD j 0))
  obtain ⟨-, k1, hk1, cm1, hkk1⟩ := (hK.2 0 _ rfl).1 ys.length (fun j => .int (ys.getD j 0))
  obtain ⟨vm', X', step⟩ := X.arraycopy hx hown hlink hnat hstat hini (src := b0 + q0) (dst := b0 + q1) (cs := vp_cell (cy 0) (xs.length, .inl (fun i => xs.getD i 0))) (cd := vp_cell (cy 0) (ys.length, .inl (fun i => ys.getD i 0))) (srcPos := sp) (destPos := dp) (n := n) (by rw [hT]; exact hc0) (by rw [hT]; exact hc1)
    (fun _ h => by cases h) (fun _ h => by cases h) (fun h => by cases h) (fun h => by cases h) hk0 hk1 hkk0 hkk1 (by simp [refKind]) h1 h2 h3
    (by rw [nn sp h1, nn n h3]; show ¬ _ > ((arrV (cy 0) xs.length (fun j => .int (xs.getD j 0))).slots.size : Int); rw [arrV_size]; omega)
    (by rw [nn dp h2, nn n h3]; show ¬ _ > ((arrV (cy 0) ys.length (fun j => .int (ys.getD j 0))).slots.size : Int); rw [arrV_size]; omega)
    (fun vm₁ _ i hi => by
      have e : (vp_cell (cy 0) (xs.length, .inl (fun i => xs.getD i 0))).slots.getD (sp.toNatClampNeg + i) .null = .int (xs.getD (sp.toNatClampNeg + i) 0) := by
        show (arrV (cy 0) xs.length (fun j => .int (xs.getD j 0))).slots.getD _ _ = _
        rw [Array.getD_eq_getD_getElem?, arrV_read _ _ (by omega)]
        rfl
      refine ⟨?_, ?_⟩
      · rw [e]
        rfl
      · rw [e]
        exact trivial)
    (g := F0 m pc ls (.int n :: .int dp :: .ref (b0 + q1) :: .int sp :: .ref (b0 + q0) :: rest)) rfl (by rw [hml]) (rest := rest) rfl (by rw [hb]; exact hdg) hframes (by show 2 * 0 + _ + (nativeFrameWords "java/lang/System" "arraycopy" 5 + 11) ≤ _; rw [show nativeFrameWords "java/lang/System" "arraycopy" 5 = 7 by decide +kernel]; omega)
  have e1 : copied (vp_cell (cy 0) (xs.length, .inl (fun i => xs.getD i 0))) (vp_cell (cy 0) (ys.length, .inl (fun i => ys.getD i 0))) sp dp n = vp_cell (cy 0) (ys.length, .inl (va_cpy (fun i => xs.getD i 0) (fun i => ys.getD i 0) sp.toNatClampNeg dp.toNatClampNeg n.toNatClampNeg)) := va_copied (fun z => .int z) (cy 0) (cy 0) (fun i => xs.getD i 0) (fun i => ys.getD i 0) h4
  rw [e1] at X' step
  have hl : b0 + q1 < H.size := (Array.getElem?_eq_some_iff.mp hc1).1
  generalize hnew : vp_cell (cy 0) (ys.length, .inl (va_cpy (fun i => xs.getD i 0) (fun i => ys.getD i 0) sp.toNatClampNeg dp.toNatClampNeg n.toNatClampNeg)) = nw at X' step
  have hheap : ((T.setVm vm').setCell (b0 + q1) nw).heap = H.setIfInBounds (b0 + q1) nw := by rw [← hT]; rfl
  have oq : ∀ q : Nat, q ≠ b0 + q1 → (H.setIfInBounds (b0 + q1) nw)[q]? = H[q]? := fun q hq => by simp [Array.getElem?_setIfInBounds, Ne.symm hq]
  obtain ⟨t, a1, b1⟩ := kk _ _ (hP.set ha1 (H1 := H.setIfInBounds (b0 + q1) nw) (by simp) oq (by
      show (H.setIfInBounds (b0 + q1) nw)[b0 + q1]? = some (vp_cell _ _)
      rw [Array.getElem?_setIfInBounds_self_of_lt hl, ← hnew, vp_cell_i, vp_cell_i, ev_cpl h4 h5]
      congr 1
      exact ev_arrc (fun j _ => by rw [ev_cpg h4 h5]))) ⟨by simp; exact hS.1, fun q g1 g2 => by
      rw [oq q (fun e => g2 (by rw [e]; exact Nat.le_add_right b0 q1))]
      exact hS.2.1 q g1 g2, fun q hq => by
      rcases List.mem_append.mp hq with h | h
      · exact hS.2.2 q h
      · obtain ⟨z, -, hz⟩ := List.mem_map.mp h
        rw [← hz]
        exact Nat.le_add_right b0 q1⟩ _ hheap X'
  exact ⟨t, step t a1, b1⟩
end EV3
