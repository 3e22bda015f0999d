/-! what our cells are on the machine: cell q lies at b0 + q; the script lies at b -/
def ev_v (b0 b : Nat) (v : Value) : Value := match v with
  | .ref i => .ref (b0 + i)
  | .retAddr _ => .ref b
  | w => w
theorem ev_v_cat (b0 b : Nat) (v : Value) : (ev_v b0 b v).category = v.category := by cases v <;> rfl
theorem ev_v_def (b0 b : Nat) (ty : FieldType) : ev_v b0 b (defaultValue ty) = defaultValue ty := by cases ty <;> rfl
def ev_c (b0 b : Nat) (cy : Nat → ClassId) (c : ev_C) : va_E := match c with
  | .inl x => .inl (cy x.1, x.2.length, .inl (fun i => x.2.getD i 0))
  | .inr (.inl rs) => .inl (cy 3, rs.length, .inr (.inr (.inr (.inr (fun i => (rs[i]?).map (fun k => b0 + k))))))
  | .inr (.inr o) => .inr (o.1, o.2.map (ev_v b0 b))
def ev_w (b0 b : Nat) (cy : Nat → ClassId) (hp : ev_H) : va_W := hp.mapIdx (fun i c => (b0 + i, ev_c b0 b cy c))
theorem ev_w_at {b0 b : Nat} {cy : Nat → ClassId} {hp : ev_H} {q : Nat} {c : ev_C} (h : hp[q]? = some c) : (ev_w b0 b cy hp)[q]? = some (b0 + q, ev_c b0 b cy c) := by
  simp [ev_w, h]
theorem ev_w_set {b0 b : Nat} {cy : Nat → ClassId} {hp : ev_H} {q : Nat} {c : ev_C} : (ev_w b0 b cy hp).set q (b0 + q, ev_c b0 b cy c) = ev_w b0 b cy (hp.set q c) := by
  apply List.ext_getElem?
  intro i
  simp only [ev_w, List.getElem?_set, List.getElem?_mapIdx, List.length_mapIdx]
  by_cases h : q = i
  · subst h
    by_cases h2 : q < hp.length <;> simp [h2]
  · simp [h]
theorem ev_w_app {b0 b : Nat} {cy : Nat → ClassId} {hp l : ev_H} : ev_w b0 b cy (hp ++ l) = ev_w b0 b cy hp ++ l.mapIdx (fun i c => (b0 + (hp.length + i), ev_c b0 b cy c)) := by
  simp only [ev_w, List.mapIdx_append]
  congr 1
  apply List.ext_getElem?
  intro i
  simp only [List.getElem?_mapIdx]
  cases l[i]? with
  | none => rfl
  | some c => simp [Nat.add_comm]
theorem ev_w_of {b0 b : Nat} {cy : Nat → ClassId} {hp : ev_H} {q : Nat} {x : Nat × va_E} (h : (ev_w b0 b cy hp)[q]? = some x) : ∃ c, hp[q]? = some c ∧ x = (b0 + q, ev_c b0 b cy c) := by
  simp only [ev_w, List.getElem?_mapIdx] at h
  cases hc : hp[q]? with
  | none => rw [hc] at h; cases h
  | some c => rw [hc] at h; cases h; exact ⟨c, rfl, rfl⟩
def ev_A (b0 : Nat) : Nat → Prop := fun q => b0 ≤ q
theorem ev_w_D (b0 b : Nat) (cy : Nat → ClassId) (hp : ev_H) : va_D (ev_A b0) (ev_w b0 b cy hp) := by
  refine ⟨fun i j x y hi hj h => ?_, fun k x h => ?_⟩
  · obtain ⟨c, -, rfl⟩ := ev_w_of hi
    obtain ⟨d, -, rfl⟩ := ev_w_of hj
    have h : b0 + i = b0 + j := h
    omega
  · obtain ⟨c, -, rfl⟩ := ev_w_of h
    exact Nat.le_add_right b0 k
def ev_P (D : va_G) (cy : Nat → ClassId) (b0 b : Nat) (hp : ev_H) (H : Heap) : Prop := va_P D vwCl (ev_w b0 b cy hp) H ∧ H.size = b0 + hp.length
def ev_ty4 (cy : Nat → ClassId) : List (ClassId × FieldType) := [(cy 0, .int), (cy 1, .char), (cy 2, .boolean), (cy 3, .array .int)]
def ev_AO (U : State) : Prop := (Cond.arrayOver (.array .int)).before #[] U = true
theorem ev_AO.moved {u U : State} (hvm : u.vm.Alike U.vm) (h : ev_AO u) : ev_AO U := by
  obtain ⟨comp, c, k, h1, h2, h3, h4, h5⟩ := arrayOverA_spec h
  obtain ⟨k', hk', he⟩ := hvm.2.2 _ _ h3
  have hi : (U.vm.classes.findIdx? fun (x : Class) => match x.kind with | .array component _ => component == comp | _ => false) = some c := by
    have e1 := va_idx_bare U.vm comp
    have e2 := va_idx_bare u.vm comp
    have e3 : U.vm.bare = u.vm.bare := by first | exact hvm.bare_eq | exact hvm.bare_eq.symm
    rw [e3] at e1
    exact e1.symm.trans (e2.trans h2)
  have hkind : k'.kind = .array comp (.array .int) := by rw [he]; exact h4
  have f1 : U.vm.findClass (FieldType.array .int).toString = some comp := by rw [hvm.findClass]; exact h1
  have f2 : U.vm.findClass ("[" ++ (FieldType.array .int).toString) = some c := by rw [hvm.findClass]; exact h5
  unfold ev_AO Cond.before Cond.holds
  simp only [Cond.value]
  rw [f1, Option.bind_some]
  refine (congrArg (fun o : Option Nat => (o.bind (fun c => (U.vm.classes[c]?).map fun (k : Class) => match k.kind with | .array _ ty => decide (ty = FieldType.array .int) && decide (U.vm.findClass ("[" ++ (FieldType.array .int).toString) = some c) | _ => false) == some true)) hi).trans ?_
  simp [hk', hkind, f2]
theorem ev_AO.use {A : Array Value} {U : State} (h : ev_AO U) : (Cond.arrayOver (.array .int)).before A U = true := h
def ev_K (D : va_G) (cy : Nat → ClassId) (U : State) : Prop := va_K D vwCl (ev_ty4 cy) U ∧ (∀ w ∈ ev_nest, va_Nw w U) ∧ ev_AO U
theorem ev_nest_warm {s U : State} (hW : s.WarmedH U.vm) : ∀ w ∈ ev_nest, va_Nw w s → va_Nw w U := by
  intro w hw h
  simp only [ev_nest, List.mem_cons, List.not_mem_nil, or_false] at hw
  rcases hw with rfl | rfl | rfl | rfl | rfl | rfl <;> exact va_Nw.warmM hW h
theorem ev_K.warm {D : va_G} {cy : Nat → ClassId} {s U : State} (hW : s.WarmedH U.vm) (h : ev_K D cy s) : ev_K D cy U :=
  ⟨va_K.moved hW.alike h.1, fun w hw => ev_nest_warm hW w hw (h.2.1 w hw), h.2.2.moved hW.alike⟩
theorem ev_nest_on : ∀ w ∈ ev_nest, w.onTables = true := by decide +kernel
theorem ev_K.calling {D : va_G} {cy : Nat → ClassId} {U : State} {g : JFrame} {mk : MethodId} {a : Array Value} (h : ev_K D cy U) : ev_K D cy (U.calling g mk a) :=
  ⟨va_K.moved (u := U) (U := U.calling g mk a) (Vm.Alike.refl U.vm) h.1, fun w hw => va_Nw.same (u := U) (U := U.calling g mk a) (ev_nest_on w hw) rfl (h.2.1 w hw), h.2.2.moved (u := U) (U := U.calling g mk a) (Vm.Alike.refl U.vm)⟩
/-! the words -/
def ev_tb : List Cond := lw_tbl.filter goodWord
theorem ev_tb_in {w : Cond} (i : Nat) (h : lw_tbl[i]? = some w) (hg : goodWord w = true) : w ∈ ev_tb := List.mem_filter.mpr ⟨List.mem_of_getElem? h, hg⟩
def ev_in (p : Nat) (w : Cond) : Bool := (match lw_tbl[p]? with
  | some x => decide (x = w)
  | none => false) && goodWord w
theorem ev_in_ok {p : Nat} {w : Cond} (h : ev_in p w = true) : w ∈ ev_tb := by
  unfold ev_in at h
  cases hp : lw_tbl[p]? with
  | none => rw [hp] at h; simp at h
  | some x =>
    rw [hp] at h
    simp only [Bool.and_eq_true, decide_eq_true_eq] at h
    exact ev_tb_in p (by rw [hp, h.1]) h.2
theorem ev_tb_good (w0 : Cond) : GoodIn (w0 :: ev_tb) ev_tb := fun w h => ⟨List.mem_cons_of_mem _ h, good_of_word (List.mem_filter.mp h).2⟩
theorem ev_tb_goodL : GoodIn ev_tb ev_tb := fun w h => ⟨h, good_of_word (List.mem_filter.mp h).2⟩
