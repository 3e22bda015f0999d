/-! OUR MACHINE IS THE MACHINE: what ev answers, the method answers -/
theorem ev_ofW {l : Launch} {y : MethodName} {ws ws' : List Cond} {rm : Room} {Pc : Array Value → State → Prop} {Qc : Array Value → State → Outcome → State → Prop} {mc ms : Nat} {free : Addr → Prop} {cc : ByteArray} {maxL : Nat} {ret : Option FieldType}
    (hy : plainFor y = true) (hw : ws = Cond.code y cc maxL ret :: ws')
    (body : ∀ p e s m args below meth c s₁, BodyLoose p l y (headSpec ws rm) cc maxL ret e s m args below meth c s₁ → c.maxLocals = maxL → Pc args s →
      W p l e (headSpec ws rm).room s m args below meth c s.heap [] 0 0 (MQ below Qc args s mc ms free) (entryFrame m args maxL)) : Met l y ws rm Pc Qc mc ms free := by
  refine MetFree.of_bodySF (code := cc) (maxLocals := maxL) (ret := ret) hy ?_ ?_
  · intro args s m h hn
    obtain ⟨meth, c, h1, h2, h3, h4, h5, h6, -, -⟩ := Cond.code_spec hn (atoms_spec (ws := ws) h _ (by rw [hw]; exact List.mem_cons_self))
    exact ⟨meth, c, h1, h2, h3, h4, h5, h6⟩
  · intro p e s m args below meth c s₁ B hml hP _
    have hh0 : s₁.heap = s.heap := by rw [B.state]; rfl
    obtain ⟨t, a1, o, b1, b2, b3⟩ := body p e s m args below meth c s₁ B hml hP s₁ hh0 (Stand.of_body B)
    exact ⟨t, o, a1, b1, b2, ⟨b3.1, b3.2⟩⟩
theorem ev_args_m (b0 b : Nat) : ∀ (vs : List Value) (i : Nat), lv_args i (vs.map (ev_v b0 b)) = ev_lm b0 b (lv_args i vs)
  | [], _ => rfl
  | v :: vs, i => by
    show (i, ev_v b0 b v) :: lv_args (if (ev_v b0 b v).category = 2 then i + 2 else i + 1) (vs.map (ev_v b0 b)) = _
    rw [ev_v_cat, ev_args_m b0 b vs]
    rfl
theorem ev_sl_len : ∀ vs : List Value, (lg_sl vs).length = ev_sum vs
  | [] => rfl
  | v :: vs => by
    have ih := ev_sl_len vs
    have h : (lg_sl (v :: vs)).length = v.category + (lg_sl vs).length := by
      unfold lg_sl
      rw [List.flatMap_cons, List.length_append]
      rcases lv_cat v with h | h <;> simp [h]
    rw [h, ih]
    rfl
theorem ev_sum_m (b0 b : Nat) (vs : List Value) : ev_sum (vs.map (ev_v b0 b)) = ev_sum vs := by
  unfold ev_sum
  rw [List.map_map]
  congr 1
  apply List.map_congr_left
  intro v _
  exact ev_v_cat b0 b v
theorem ev_a_ok {t : List ev_E} {pc : Nat} {x : ev_E} (h : ev_a t pc = some x) : x ∈ t ∧ x.1 = pc := by
  induction t with
  | nil => cases h
  | cons q r ih =>
    unfold ev_a at h
    cases hq : Nat.beq q.1 pc with
    | true =>
      rw [hq] at h
      cases h
      exact ⟨List.mem_cons_self, ev_beq hq⟩
    | false =>
      rw [hq] at h
      obtain ⟨h1, h2⟩ := ih h
      exact ⟨List.mem_cons_of_mem _ h1, h2⟩
theorem ev_getD_mem {α : Type} {t : List (List α)} {k : Nat} {x : α} (h : x ∈ t.getD k []) : ∃ r ∈ t, x ∈ r := by
  rw [List.getD_eq_getElem?_getD] at h
  cases hk : t[k]? with
  | none => rw [hk] at h; simp at h
  | some r => rw [hk] at h; exact ⟨r, List.mem_of_getElem? hk, h⟩
theorem ev_f_ok {own : String} {cc : ByteArray} {t : ev_T} {pc : Nat} {x : ev_E} (h : ev_f t pc = some x) (ht : ev_tok own cc t = true) : x.1 = pc ∧ ev_dok cc x = true ∧ ev_eok1 own x = true := by
  obtain ⟨h1, h2⟩ := ev_a_ok h
  obtain ⟨r, hr, hx⟩ := ev_getD_mem h1
  have h3 := List.all_eq_true.mp (List.all_eq_true.mp ht r hr) x hx
  unfold ev_eok at h3
  rw [Bool.and_eq_true] at h3
  exact ⟨h2, h3.1, h3.2⟩
theorem ev_dok_ok {cc : ByteArray} {pc a b p : Nat} {i : Instr} {v : Value} (h : ev_dok cc (pc, i, a, b, p, v) = true) : ∃ len, decode cc pc = .ok (i, len) ∧ (len = ev_len i ∨ ∃ d lo hi o, i = .tableswitch d lo hi o) := by
  unfold ev_dok at h
  dsimp only at h
  split at h
  · split at h
    · rename_i j n hd
      have hj : j = _ := of_decide_eq_true h
      subst hj
      exact ⟨n, hd, Or.inr ⟨_, _, _, _, rfl⟩⟩
    · cases h
  · exact ⟨_, of_decide_eq_true h, Or.inl rfl⟩
theorem ev_ms_ok {a : Nat} {r : ev_R} (h : ev_ms a = some r) : ev_rowok r = true ∧ ev_nm a = some r.2.1 := by
  unfold ev_ms at h
  obtain ⟨l9, hl, hr⟩ := ev_getD_mem (List.mem_of_getElem? h)
  refine ⟨ev_kall l9 hl r hr, ?_⟩
  unfold ev_nm
  rw [← ev_nmall]
  have : (ev_all.map (fun l => l.map (fun r => r.2.1))).getD (a / 16) [] = (ev_all.getD (a / 16) []).map (fun r => r.2.1) := by
    rw [List.getD_eq_getElem?_getD, List.getD_eq_getElem?_getD, List.getElem?_map]
    cases ev_all[a / 16]? <;> rfl
  rw [this, List.getElem?_map, h]
  rfl
theorem ev_rw_ok {rt ini mx na rc fr lo mc ms : Nat} {t : ev_T} {y : MethodName} {cc : ByteArray} {ret : Option FieldType} {p1 p2 p3 p4 : Nat} (h : ev_rwok ((rt, ini, mx, na, rc, fr, lo, mc, ms, t), y, cc, ret, p1, p2, p3, p4) = true) :
    Cond.code y cc mx ret ∈ ev_tb ∧ Cond.initialized y.cls ∈ ev_tb ∧ plainFor y = true ∧ y.cls ≠ "java/lang/invoke/MethodHandle" ∧ y.cls ≠ "java/lang/invoke/VarHandle" ∧ (parseMethodDescriptor y.desc).map (fun d => d.parameters.length) = some na ∧ ev_rtok rt ret = true ∧
    (rc = 0 → Cond.static y ∈ ev_tb ∧ ini = 0) ∧ ∀ k, rc = k + 1 → Cond.instanceMethod y ∈ ev_tb ∧ (ini = 0 → Cond.selects y.cls y y ∈ ev_tb) ∧ (∀ j, ini = j + 1 → j = k ∧ y.name = "<init>" ∧ rt = 0) ∧ ∃ q : vw_C, vwCl[k]? = some q ∧ q.1 = y.cls := by
  unfold ev_rwok at h
  simp only [Bool.and_eq_true, decide_eq_true_eq] at h
  obtain ⟨h1, h2, h3, h4, h5, h6, h7, h8⟩ := h
  refine ⟨ev_in_ok h1, ev_in_ok h2, h3, h4, h5, h6, h7, fun z => ?_, fun k z => ?_⟩
  · subst z
    simp only [Bool.and_eq_true] at h8
    exact ⟨ev_in_ok h8.1, ev_beq h8.2⟩
  · subst z
    simp only [Bool.and_eq_true] at h8
    obtain ⟨g1, g2, g3⟩ := h8
    refine ⟨ev_in_ok g1, fun z => ?_, fun j z => ?_, ?_⟩
    · subst z
      exact ev_in_ok g2
    · subst z
      simp only [Bool.and_eq_true, decide_eq_true_eq] at g2
      exact ⟨ev_beq g2.1, g2.2.1, ev_beq g2.2.2⟩
    · cases hq : vwCl[k]? with
      | none => rw [hq] at g3; cases g3
      | some q =>
        rw [hq] at g3
        exact ⟨q, rfl, of_decide_eq_true g3⟩
theorem ev_goodL {ws : List Cond} (h : ∀ w ∈ ws, w ∈ ev_tb) : GoodIn ev_tb ws := fun w hw => ⟨h w hw, good_of_word (List.mem_filter.mp (h w hw)).2⟩
/-- what is to be shown of n steps -/
def ev_Snd (n : Nat) : Prop := ∀ (sc : Option (List Int32)) (rt ini mx na rc fr lo mc ms : Nat) (t : ev_T) (pc : Nat) (L : ev_L) (st : List Value) (hp : ev_H) (kc ks : Nat) (rv : Option Value) (hp' : ev_H),
  ev n sc (rt, ini, mx, na, rc, fr, lo, mc, ms, t) pc L st hp kc ks = some (rv, hp') → ∀ (p : Program) (l : Launch) (e : Env) (R : Room) (s : State) (m : MethodId) (args : Array Value) (below : List Frame) (meth : Method) (c : Code) (H : Heap) (locs : List Loc) (Q : State → Prop) (cc : ByteArray) (own : String) (D : va_G) (cy : Nat → ClassId) (b0 b : Nat) (ls : Array Slot),
  p.tables.exec = Jvm.exec → c.code = cc → c.maxLocals = mx → s.vm.findClass own = some m.cls → (∀ w ∈ ev_tb, w.before args s = true) → R.frames = fr → R.locals = lo → R.cells = mc → R.slots = ms → ev_K D cy s → ev_P D cy b0 b hp H → va_S (ev_A b0) s.heap H locs →
  (∀ xs, sc = some xs → va_X b xs.length (fun j => xs.getD j 0) s s.heap ∧ b < s.heap.size ∧ b < b0) → (∀ k, ini = k + 1 → meth.name = "<init>" ∧ ∃ q : vw_C, vwCl[k]? = some q ∧ q.1 = own) → ev_tok own cc t = true → lv_has ls mx (ev_lm b0 b L) → kc ≤ mc → ks ≤ ms →
  (∀ (pc' : Nat) (i : Instr) (H' : Heap) (locs' : List Loc) (ls' : Array Slot), ev_P D cy b0 b hp' H' → va_S (ev_A b0) s.heap H' locs' → decode cc pc' = .ok (i, 1) → ev_rok rt i rv.toList = some rv → W p l e R s m args below meth c H' locs' mc ms Q (F0 m pc' ls' (rv.toList.map (ev_v b0 b)))) →
  W p l e R s m args below meth c H locs kc ks Q (F0 m pc ls (st.map (ev_v b0 b)))
/-- the answer of a method, as its contract says it -/
def ev_Q (D : va_G) (cy : Nat → ClassId) (b0 b : Nat) (rv : Option Value) (hp' : ev_H) : Array Value → State → Outcome → State → Prop := match rv with
  | none => va_Qv (fun _ : Unit => True) (fun _ t => ev_P D cy b0 b hp' t.heap) (ev_A b0)
  | some (.int x) => va_Qi (fun r (_ : Unit) => r = x) (fun _ t => ev_P D cy b0 b hp' t.heap) (ev_A b0)
  | some (.long x) => va_Ql (fun r (_ : Unit) => r = x) (fun _ t => ev_P D cy b0 b hp' t.heap) (ev_A b0)
  | _ => fun _ _ _ _ => False
