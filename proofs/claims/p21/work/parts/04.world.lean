/-! what our cells are on the machine: cell q lies at b0 + q; the script lies at b -/
def ev_v (b0 b : Nat) (v : Value) : Value := match v with
  | .ref i => .ref (b0 + i)
  | .retAddr _ => .ref b
  | w => w
theorem ev_v_cat (b0 b : Nat) (v : Value) : (ev_v b0 b v).category = v.category := by cases v <;> rfl
theorem ev_v_def (b0 b : Nat) (ty : FieldType) : ev_v b0 b (defaultValue ty) = defaultValue ty := by cases ty <;> rfl
def ev_c (b0 b : Nat) (cy : Nat → ClassId) (c : ev_C) : va_E := match c with
  | .inl x => .inl (cy x.1, x.2.length, .inl (fun i => x.2.getD i 0))
  | .inr (.inl rs) => .inl (cy 3, rs.length, .inr (.inr (.inr (.inr (fun i => (rs[i]?).map (fun k => b0 + k))))))
  | .inr (.inr o) => .inr (o.1, o.2.map (ev_v b0 b))
def ev_w (b0 b : Nat) (cy : Nat → ClassId) (hp : ev_H) : va_W := hp.mapIdx (fun i c => (b0 + i, ev_c b0 b cy c))
theorem ev_w_at {b0 b : Nat} {cy : Nat → ClassId} {hp : ev_H} {q : Nat} {c : ev_C} (h : hp[q]? = some c) : (ev_w b0 b cy hp)[q]? = some (b0 + q, ev_c b0 b cy c) := by
  simp [ev_w, h]
theorem ev_w_set {b0 b : Nat} {cy : Nat → ClassId} {hp : ev_H} {q : Nat} {c : ev_C} : (ev_w b0 b cy hp).set q (b0 + q, ev_c b0 b cy c) = ev_w b0 b cy (hp.set q c) := by
  apply List.ext_getElem?
  intro i
  simp only [ev_w, List.getElem?_set, List.getElem?_mapIdx, List.length_mapIdx]
  by_cases h : q = i
  · subst h
    by_cases h2 : q < hp.length <;> simp [h2]
  · simp [h]
theorem ev_w_app {b0 b : Nat} {cy : Nat → ClassId} {hp l : ev_H} : ev_w b0 b cy (hp ++ l) = ev_w b0 b cy hp ++ l.mapIdx (fun i c => (b0 + (hp.length + i), ev_c b0 b cy c)) := by
  simp only [ev_w, List.mapIdx_append]
  congr 1
  apply List.ext_getElem?
  intro i
  simp only [List.getElem?_mapIdx]
  cases l[i]? with
  | none => rfl
  | some c => simp [Nat.add_comm]
theorem ev_w_of {b0 b : Nat} {cy : Nat → ClassId} {hp : ev_H} {q : Nat} {x : Nat × va_E} (h : (ev_w b0 b cy hp)[q]? = some x) : ∃ c, hp[q]? = some c ∧ x = (b0 + q, ev_c b0 b cy c) := by
  simp only [ev_w, List.getElem?_mapIdx] at h
  cases hc : hp[q]? with
  | none => rw [hc] at h; cases h
  | some c => rw [hc] at h; cases h; exact ⟨c, rfl, rfl⟩
def ev_A (b0 : Nat) : Nat → Prop := fun q => b0 ≤ q
theorem ev_w_D (b0 b : Nat) (cy : Nat → ClassId) (hp : ev_H) : va_D (ev_A b0) (ev_w b0 b cy hp) := by
  refine ⟨fun i j x y hi hj h => ?_, fun k x h => ?_⟩
  · obtain ⟨c, -, rfl⟩ := ev_w_of hi
    obtain ⟨d, -, rfl⟩ := ev_w_of hj
    have h : b0 + i = b0 + j := h
    omega
  · obtain ⟨c, -, rfl⟩ := ev_w_of h
    exact Nat.le_add_right b0 k
def ev_P (D : va_G) (cy : Nat → ClassId) (b0 b : Nat) (hp : ev_H) (H : Heap) : Prop := va_P D vwCl (ev_w b0 b cy hp) H ∧ H.size = b0 + hp.length
def ev_ty4 (cy : Nat → ClassId) : List (ClassId × FieldType) := [(cy 0, .int), (cy 1, .char), (cy 2, .boolean), (cy 3, .array .int)]
def ev_AO (U : State) : Prop := (Cond.arrayOver (.array .int)).before #[] U = true
theorem ev_AO.moved {u U : State} (hvm : u.vm.Alike U.vm) (h : ev_AO u) : ev_AO U := by
  obtain ⟨comp, c, k, h1, h2, h3, h4, h5⟩ := arrayOverA_spec h
  obtain ⟨k', hk', he⟩ := hvm.2.2 _ _ h3
  have hi : (U.vm.classes.findIdx? fun (x : Class) => match x.kind with | .array component _ => component == comp | _ => false) = some c := by
    have e1 := va_idx_bare U.vm comp
    have e2 := va_idx_bare u.vm comp
    have e3 : U.vm.bare = u.vm.bare := by first | exact hvm.bare_eq | exact hvm.bare_eq.symm
    rw [e3] at e1
    exact e1.symm.trans (e2.trans h2)
  have hkind : k'.kind = .array comp (.array .int) := by rw [he]; exact h4
  have f1 : U.vm.findClass (FieldType.array .int).toString = some comp := by rw [hvm.findClass]; exact h1
  have f2 : U.vm.findClass ("[" ++ (FieldType.array .int).toString) = some c := by rw [hvm.findClass]; exact h5
  unfold ev_AO Cond.before Cond.holds
  simp only [Cond.value]
  rw [f1, Option.bind_some]
  refine (congrArg (fun o : Option Nat => (o.bind (fun c => (U.vm.classes[c]?).map fun (k : Class) => match k.kind with | .array _ ty => decide (ty = FieldType.array .int) && decide (U.vm.findClass ("[" ++ (FieldType.array .int).toString) = some c) | _ => false) == some true)) hi).trans ?_
  simp [hk', hkind, f2]
theorem ev_AO.use {A : Array Value} {U : State} (h : ev_AO U) : (Cond.arrayOver (.array .int)).before A U = true := h
def ev_K (D : va_G) (cy : Nat → ClassId) (U : State) : Prop := va_K D vwCl (ev_ty4 cy) U ∧ (∀ w ∈ ev_nest, va_Nw w U) ∧ ev_AO U
theorem ev_nest_warm {s U : State} (hW : s.WarmedH U.vm) : ∀ w ∈ ev_nest, va_Nw w s → va_Nw w U := by
  intro w hw h
  simp only [ev_nest, List.mem_cons, List.not_mem_nil, or_false] at hw
  rcases hw with rfl | rfl | rfl | rfl | rfl | rfl <;> exact va_Nw.warmM hW h
theorem ev_K.warm {D : va_G} {cy : Nat → ClassId} {s U : State} (hW : s.WarmedH U.vm) (h : ev_K D cy s) : ev_K D cy U :=
  ⟨va_K.moved hW.alike h.1, fun w hw => ev_nest_warm hW w hw (h.2.1 w hw), h.2.2.moved hW.alike⟩
theorem ev_nest_on : ∀ w ∈ ev_nest, w.onTables = true := by decide +kernel
theorem ev_K.calling {D : va_G} {cy : Nat → ClassId} {U : State} {g : JFrame} {mk : MethodId} {a : Array Value} (h : ev_K D cy U) : ev_K D cy (U.calling g mk a) :=
  ⟨va_K.moved (u := U) (U := U.calling g mk a) (Vm.Alike.refl U.vm) h.1, fun w hw => va_Nw.same (u := U) (U := U.calling g mk a) (ev_nest_on w hw) rfl (h.2.1 w hw), h.2.2.moved (u := U) (U := U.calling g mk a) (Vm.Alike.refl U.vm)⟩
/-! the words -/
def ev_tb : List Cond := lw_tbl.filter goodWord
theorem ev_tb_in {w : Cond} (i : Nat) (h : lw_tbl[i]? = some w) (hg : goodWord w = true) : w ∈ ev_tb := List.mem_filter.mpr ⟨List.mem_of_getElem? h, hg⟩
def lw_c0 : List Cond := lw_tbl
def lw_c1 : List Cond := lw_c0.drop 32
def lw_c2 : List Cond := lw_c1.drop 32
def lw_c3 : List Cond := lw_c2.drop 32
def lw_c4 : List Cond := lw_c3.drop 32
def lw_c5 : List Cond := lw_c4.drop 32
def lw_c6 : List Cond := lw_c5.drop 32
def lw_c7 : List Cond := lw_c6.drop 32
def lw_c8 : List Cond := lw_c7.drop 32
def lw_c9 : List Cond := lw_c8.drop 32
def lw_c10 : List Cond := lw_c9.drop 32
def lw_c11 : List Cond := lw_c10.drop 32
def lw_c12 : List Cond := lw_c11.drop 32
def lw_c13 : List Cond := lw_c12.drop 32
def lw_c14 : List Cond := lw_c13.drop 32
def lw_c15 : List Cond := lw_c14.drop 32
def lw_c16 : List Cond := lw_c15.drop 32
def lw_c17 : List Cond := lw_c16.drop 32
def lw_c18 : List Cond := lw_c17.drop 32
def lw_c19 : List Cond := lw_c18.drop 32
def lw_c20 : List Cond := lw_c19.drop 32
def lw_c21 : List Cond := lw_c20.drop 32
def lw_c22 : List Cond := lw_c21.drop 32
def lw_c23 : List Cond := lw_c22.drop 32
def lw_c24 : List Cond := lw_c23.drop 32
def lw_c25 : List Cond := lw_c24.drop 32
def lw_c26 : List Cond := lw_c25.drop 32
def lw_c27 : List Cond := lw_c26.drop 32
def lw_c28 : List Cond := lw_c27.drop 32
def lw_c29 : List Cond := lw_c28.drop 32
def lw_c30 : List Cond := lw_c29.drop 32
def lw_c31 : List Cond := lw_c30.drop 32
def lw_c32 : List Cond := lw_c31.drop 32
def lw_c33 : List Cond := lw_c32.drop 32
def lw_c34 : List Cond := lw_c33.drop 32
def lw_c35 : List Cond := lw_c34.drop 32
def lw_c36 : List Cond := lw_c35.drop 32
def lw_c37 : List Cond := lw_c36.drop 32
def lw_c38 : List Cond := lw_c37.drop 32
def lw_c39 : List Cond := lw_c38.drop 32
/-- the words in chunks of 32: a look-up costs a few steps -/
def lw_cs : List (List Cond) := [lw_c0, lw_c1, lw_c2, lw_c3, lw_c4, lw_c5, lw_c6, lw_c7, lw_c8, lw_c9, lw_c10, lw_c11, lw_c12, lw_c13, lw_c14, lw_c15, lw_c16, lw_c17, lw_c18, lw_c19, lw_c20, lw_c21, lw_c22, lw_c23, lw_c24, lw_c25, lw_c26, lw_c27, lw_c28, lw_c29, lw_c30, lw_c31, lw_c32, lw_c33, lw_c34, lw_c35, lw_c36, lw_c37, lw_c38, lw_c39]
def lw_at (p : Nat) : Option Cond := match lw_cs[p / 32]? with
  | some c => c[p % 32]?
  | none => none
theorem lw_cs_in : ∀ c ∈ lw_cs, ∀ w ∈ c, w ∈ lw_tbl := by
  have h0 : ∀ w ∈ lw_c0, w ∈ lw_tbl := fun _ h => h
  have h1 : ∀ w ∈ lw_c1, w ∈ lw_tbl := fun w h => h0 w (List.mem_of_mem_drop h)
  have h2 : ∀ w ∈ lw_c2, w ∈ lw_tbl := fun w h => h1 w (List.mem_of_mem_drop h)
  have h3 : ∀ w ∈ lw_c3, w ∈ lw_tbl := fun w h => h2 w (List.mem_of_mem_drop h)
  have h4 : ∀ w ∈ lw_c4, w ∈ lw_tbl := fun w h => h3 w (List.mem_of_mem_drop h)
  have h5 : ∀ w ∈ lw_c5, w ∈ lw_tbl := fun w h => h4 w (List.mem_of_mem_drop h)
  have h6 : ∀ w ∈ lw_c6, w ∈ lw_tbl := fun w h => h5 w (List.mem_of_mem_drop h)
  have h7 : ∀ w ∈ lw_c7, w ∈ lw_tbl := fun w h => h6 w (List.mem_of_mem_drop h)
  have h8 : ∀ w ∈ lw_c8, w ∈ lw_tbl := fun w h => h7 w (List.mem_of_mem_drop h)
  have h9 : ∀ w ∈ lw_c9, w ∈ lw_tbl := fun w h => h8 w (List.mem_of_mem_drop h)
  have h10 : ∀ w ∈ lw_c10, w ∈ lw_tbl := fun w h => h9 w (List.mem_of_mem_drop h)
  have h11 : ∀ w ∈ lw_c11, w ∈ lw_tbl := fun w h => h10 w (List.mem_of_mem_drop h)
  have h12 : ∀ w ∈ lw_c12, w ∈ lw_tbl := fun w h => h11 w (List.mem_of_mem_drop h)
  have h13 : ∀ w ∈ lw_c13, w ∈ lw_tbl := fun w h => h12 w (List.mem_of_mem_drop h)
  have h14 : ∀ w ∈ lw_c14, w ∈ lw_tbl := fun w h => h13 w (List.mem_of_mem_drop h)
  have h15 : ∀ w ∈ lw_c15, w ∈ lw_tbl := fun w h => h14 w (List.mem_of_mem_drop h)
  have h16 : ∀ w ∈ lw_c16, w ∈ lw_tbl := fun w h => h15 w (List.mem_of_mem_drop h)
  have h17 : ∀ w ∈ lw_c17, w ∈ lw_tbl := fun w h => h16 w (List.mem_of_mem_drop h)
  have h18 : ∀ w ∈ lw_c18, w ∈ lw_tbl := fun w h => h17 w (List.mem_of_mem_drop h)
  have h19 : ∀ w ∈ lw_c19, w ∈ lw_tbl := fun w h => h18 w (List.mem_of_mem_drop h)
  have h20 : ∀ w ∈ lw_c20, w ∈ lw_tbl := fun w h => h19 w (List.mem_of_mem_drop h)
  have h21 : ∀ w ∈ lw_c21, w ∈ lw_tbl := fun w h => h20 w (List.mem_of_mem_drop h)
  have h22 : ∀ w ∈ lw_c22, w ∈ lw_tbl := fun w h => h21 w (List.mem_of_mem_drop h)
  have h23 : ∀ w ∈ lw_c23, w ∈ lw_tbl := fun w h => h22 w (List.mem_of_mem_drop h)
  have h24 : ∀ w ∈ lw_c24, w ∈ lw_tbl := fun w h => h23 w (List.mem_of_mem_drop h)
  have h25 : ∀ w ∈ lw_c25, w ∈ lw_tbl := fun w h => h24 w (List.mem_of_mem_drop h)
  have h26 : ∀ w ∈ lw_c26, w ∈ lw_tbl := fun w h => h25 w (List.mem_of_mem_drop h)
  have h27 : ∀ w ∈ lw_c27, w ∈ lw_tbl := fun w h => h26 w (List.mem_of_mem_drop h)
  have h28 : ∀ w ∈ lw_c28, w ∈ lw_tbl := fun w h => h27 w (List.mem_of_mem_drop h)
  have h29 : ∀ w ∈ lw_c29, w ∈ lw_tbl := fun w h => h28 w (List.mem_of_mem_drop h)
  have h30 : ∀ w ∈ lw_c30, w ∈ lw_tbl := fun w h => h29 w (List.mem_of_mem_drop h)
  have h31 : ∀ w ∈ lw_c31, w ∈ lw_tbl := fun w h => h30 w (List.mem_of_mem_drop h)
  have h32 : ∀ w ∈ lw_c32, w ∈ lw_tbl := fun w h => h31 w (List.mem_of_mem_drop h)
  have h33 : ∀ w ∈ lw_c33, w ∈ lw_tbl := fun w h => h32 w (List.mem_of_mem_drop h)
  have h34 : ∀ w ∈ lw_c34, w ∈ lw_tbl := fun w h => h33 w (List.mem_of_mem_drop h)
  have h35 : ∀ w ∈ lw_c35, w ∈ lw_tbl := fun w h => h34 w (List.mem_of_mem_drop h)
  have h36 : ∀ w ∈ lw_c36, w ∈ lw_tbl := fun w h => h35 w (List.mem_of_mem_drop h)
  have h37 : ∀ w ∈ lw_c37, w ∈ lw_tbl := fun w h => h36 w (List.mem_of_mem_drop h)
  have h38 : ∀ w ∈ lw_c38, w ∈ lw_tbl := fun w h => h37 w (List.mem_of_mem_drop h)
  have h39 : ∀ w ∈ lw_c39, w ∈ lw_tbl := fun w h => h38 w (List.mem_of_mem_drop h)
  exact (List.forall_mem_cons.mpr ⟨h0, (List.forall_mem_cons.mpr ⟨h1, (List.forall_mem_cons.mpr ⟨h2, (List.forall_mem_cons.mpr ⟨h3, (List.forall_mem_cons.mpr ⟨h4, (List.forall_mem_cons.mpr ⟨h5, (List.forall_mem_cons.mpr ⟨h6, (List.forall_mem_cons.mpr ⟨h7, (List.forall_mem_cons.mpr ⟨h8, (List.forall_mem_cons.mpr ⟨h9, (List.forall_mem_cons.mpr ⟨h10, (List.forall_mem_cons.mpr ⟨h11, (List.forall_mem_cons.mpr ⟨h12, (List.forall_mem_cons.mpr ⟨h13, (List.forall_mem_cons.mpr ⟨h14, (List.forall_mem_cons.mpr ⟨h15, (List.forall_mem_cons.mpr ⟨h16, (List.forall_mem_cons.mpr ⟨h17, (List.forall_mem_cons.mpr ⟨h18, (List.forall_mem_cons.mpr ⟨h19, (List.forall_mem_cons.mpr ⟨h20, (List.forall_mem_cons.mpr ⟨h21, (List.forall_mem_cons.mpr ⟨h22, (List.forall_mem_cons.mpr ⟨h23, (List.forall_mem_cons.mpr ⟨h24, (List.forall_mem_cons.mpr ⟨h25, (List.forall_mem_cons.mpr ⟨h26, (List.forall_mem_cons.mpr ⟨h27, (List.forall_mem_cons.mpr ⟨h28, (List.forall_mem_cons.mpr ⟨h29, (List.forall_mem_cons.mpr ⟨h30, (List.forall_mem_cons.mpr ⟨h31, (List.forall_mem_cons.mpr ⟨h32, (List.forall_mem_cons.mpr ⟨h33, (List.forall_mem_cons.mpr ⟨h34, (List.forall_mem_cons.mpr ⟨h35, (List.forall_mem_cons.mpr ⟨h36, (List.forall_mem_cons.mpr ⟨h37, (List.forall_mem_cons.mpr ⟨h38, (List.forall_mem_cons.mpr ⟨h39, (fun c hc => absurd hc List.not_mem_nil)⟩)⟩)⟩)⟩)⟩)⟩)⟩)⟩)⟩)⟩)⟩)⟩)⟩)⟩)⟩)⟩)⟩)⟩)⟩)⟩)⟩)⟩)⟩)⟩)⟩)⟩)⟩)⟩)⟩)⟩)⟩)⟩)⟩)⟩)⟩)⟩)⟩)⟩)⟩)⟩)
theorem lw_at_in {p : Nat} {w : Cond} (h : lw_at p = some w) : w ∈ lw_tbl := by
  unfold lw_at at h
  cases hc : lw_cs[p / 32]? with
  | none => rw [hc] at h; cases h
  | some c =>
    rw [hc] at h
    exact lw_cs_in c (List.mem_of_getElem? hc) w (List.mem_of_getElem? h)
def ev_in (p : Nat) (w : Cond) : Bool := (match lw_at p with
  | some x => decide (x = w)
  | none => false) && goodWord w
theorem ev_in_ok {p : Nat} {w : Cond} (h : ev_in p w = true) : w ∈ ev_tb := by
  unfold ev_in at h
  cases hp : lw_at p with
  | none => rw [hp] at h; simp at h
  | some x =>
    rw [hp] at h
    simp only [Bool.and_eq_true, decide_eq_true_eq] at h
    exact List.mem_filter.mpr ⟨lw_at_in (by rw [hp, h.1]), h.2⟩
theorem ev_tb_good (w0 : Cond) : GoodIn (w0 :: ev_tb) ev_tb := fun w h => ⟨List.mem_cons_of_mem _ h, good_of_word (List.mem_filter.mp h).2⟩
theorem ev_tb_goodL : GoodIn ev_tb ev_tb := fun w h => ⟨h, good_of_word (List.mem_filter.mp h).2⟩
