/-! cells: one step of our machine is one step of the machine -/
theorem ev_beq {a c : Nat} (h : Nat.beq a c = true) : a = c := Nat.eq_of_beq_eq_true h
theorem ev_fok_ok {own : String} {idx a bb pp : Nat} (h : ev_fok own idx a bb pp = true) : ∃ (q : vw_C) (ty : Nat → FieldType), vwCl[a]? = some q ∧ ev_tys[a]? = some ty ∧ bb < q.2.2 ∧ Cond.fieldLink own idx (q.2.1 bb).1 (q.2.1 bb).2.1 (q.2.1 bb).2.2.1 ∈ ev_tb := by
  unfold ev_fok at h
  split at h
  · rename_i q ty h1 h2
    simp only [Bool.and_eq_true, decide_eq_true_eq] at h
    exact ⟨q, ty, h1, h2, h.1, ev_in_ok h.2⟩
  · cases h
theorem ev_inn_ok {i : Int32} {n : Nat} (h : ev_inn i n = true) : vp_in i n ∧ i.toNatClampNeg < n := by
  unfold ev_inn at h
  simp only [Bool.and_eq_true, Bool.not_eq_true', decide_eq_false_iff_not, decide_eq_true_eq] at h
  exact ⟨fun q => q.elim h.1 (fun z => Nat.not_le.mpr h.2 z), h.2⟩
theorem ev_pok_ok {ty : FieldType} {v : Value} (h : ev_pok ty v = true) (b0 b : Nat) : narrow ty (ev_v b0 b v) = ev_v b0 b v ∧ fits ty (ev_v b0 b v) = true := by
  unfold ev_pok at h
  split at h
  · exact ⟨rfl, rfl⟩
  · exact ⟨rfl, rfl⟩
  · simp only [Bool.or_eq_true, beq_iff_eq] at h
    rcases h with rfl | rfl
    · exact ⟨rfl, rfl⟩
    · exact ⟨rfl, rfl⟩
  · exact ⟨rfl, rfl⟩
  · exact ⟨rfl, rfl⟩
  · cases h
theorem ev_P.set {D : va_G} {cy : Nat → ClassId} {b0 b q : Nat} {hp : ev_H} {H H1 : Heap} {c0 c1 : ev_C} (h : ev_P D cy b0 b hp H) (he : hp[q]? = some c0) (hz : H1.size = H.size) (ho : ∀ x : Nat, x ≠ b0 + q → H1[x]? = H[x]?) (hn : va_at D vwCl (b0 + q, ev_c b0 b cy c1) H1) : ev_P D cy b0 b (hp.set q c1) H1 := by
  refine ⟨?_, by rw [hz, h.2, List.length_set]⟩
  have := h.1.set (ev_w_D b0 b cy hp) (ev_w_at he) hn ho
  rw [ev_w_set] at this
  exact this
theorem ev_updL (xs : List Int32) (k : Nat) (x : Int32) (hk : k < xs.length) : updV (fun j => Value.int (xs.getD j 0)) k (.int x) = (fun j => Value.int ((xs.set k x).getD j 0)) := by
  funext j
  by_cases hj : j = k
  · subst hj
    simp [updV, hk]
  · simp [updV, hj, List.getD_eq_getElem?_getD, List.getElem?_set, Ne.symm hj]
section EV2
variable {p : Program} {l : Launch} {e : Env} {R : Room} {s : State} {m : MethodId} {args : Array Value} {below : List Frame} {meth : Method} {c : Code} {H : Heap} {locs : List Loc} {cells slots : Nat} {Q : State → Prop}
variable {cc : ByteArray} {pc : Nat} {ls : Array Slot} {b0 b : Nat} {D : va_G} {cy : Nat → ClassId} {hp : ev_H} {rest : List Value}
theorem ev_rput (hx : p.tables.exec = Jvm.exec) (hb : c.code = cc) {own : String} (hown : s.vm.findClass own = some m.cls) (hts : ∀ w ∈ ev_tb, w.before args s = true) (hK : va_K D vwCl (ev_ty4 cy) s) (hP : ev_P D cy b0 b hp H) (hS0 : va_S (ev_A b0) s.heap H locs)
    {q ci k index : Nat} {fs : List Value} {qc : vw_C} {ty : Nat → FieldType} {v : Value} (he : hp[q]? = some (.inr (.inr (ci, fs)))) (hc : vwCl[ci]? = some qc) (ht : ev_tys[ci]? = some ty) (hk : k < qc.2.2) (hlink : Cond.fieldLink own index (qc.2.1 k).1 (qc.2.1 k).2.1 (qc.2.1 k).2.2.1 ∈ ev_tb)
    (hfin : (qc.2.1 k).2.2.2 = false ∨ (meth.name = "<init>" ∧ qc.1 = own)) (hpok : ev_pok (ty k) v = true) (hl : k < fs.length) (hdg : decode cc pc = .ok (.putfield index, 3))
    (kk : ∀ (H1 : Heap) (locs1 : List Loc), ev_P D cy b0 b (hp.set q (.inr (.inr (ci, fs.set k v)))) H1 → va_S (ev_A b0) s.heap H1 locs1 → W p l e R s m args below meth c H1 locs1 cells slots Q (F0 m (pc + 3) ls rest)) : W p l e R s m args below meth c H locs cells slots Q (F0 m pc ls (ev_v b0 b v :: .ref (b0 + q) :: rest)) := by
  obtain ⟨C, T, N⟩ := qc
  obtain ⟨hin, hty, hnm, hdecl⟩ := ev_cl ci _ ty hc ht
  have hap := va_apart (own := own) hts hin ty hty hnm hK hc
  obtain ⟨r, h1, cell, q1, q2, q3, q4⟩ := hP.1 q _ (ev_w_at he)
  have hr : r = (C, T, N) := Option.some.inj (h1.symm.trans hc)
  subst hr
  obtain ⟨hS, hfc, kC, hkC, hkind⟩ := hK.1 ci _ hc
  obtain ⟨cf, kf, fi, f, hi, hsl⟩ := hS k hk
  have hlay := hts _ (hin _ (u_in_lay hk))
  have hst := (u_facts hfc hkC (u_lays hts hin hk) hi).1
  obtain ⟨hn, hfit⟩ := ev_pok_ok hpok b0 b
  have end_ : ∀ H' : Heap, H'[b0 + q]? = some (cell.setSlot f.slot (ev_v b0 b v)) → H'.size = H.size → (∀ x, x ≠ b0 + q → H'[x]? = H[x]?) → W p l e R s m args below meth c H' (locs ++ [⟨b0 + q, f.slot⟩]) cells slots Q (F0 m (pc + 3) ls rest) := by
    intro H' e1 e2 e3
    rw [hsl] at e1
    refine kk H' _ (hP.set he e2 e3 ?_) (hS0.put e2 e3 (Nat.le_add_right b0 q))
    refine ⟨_, hc, ?_⟩
    have hl' : k < (fs.map (ev_v b0 b)).length := by rw [List.length_map]; exact hl
    have := t_OB.to (V := updV (vp_V (fs.map (ev_v b0 b))) k (ev_v b0 b v)) (V' := vp_V ((fs.map (ev_v b0 b)).set k (ev_v b0 b v))) ⟨_, e1, q2, q3, t_set q4 hap hk (ev_v b0 b v)⟩ (fun j _ => vp_updV_set hl' (ev_v b0 b v) j)
    rw [List.map_set] 
    exact this
  by_cases hf : (T k).2.2.2 = true
  · unfold u_lay at hlay
    rw [if_pos hf] at hlay
    rcases hfin with h0 | ⟨hin2, hq⟩
    · exact absurd hf (by rw [show (T k).2.2.2 = false from h0]; decide)
    have hcf : m.cls = cf := by
      obtain ⟨_, _, c', _, _, _, -, -, hf', -, -, -, hown2, -⟩ := Cond.laysFinal_spec hlay
      have e1 : c' = cf := by have := hi.symm.trans hf'; simp at this; exact this.1.symm
      rw [show (T k).1 = own from (hdecl k hk).trans hq] at hown2
      rw [← e1]; exact Option.some.inj (hown.symm.trans hown2)
    have h6 := u_fits hfc hkC hkind (Or.inr hlay) hi (hty k hk) hn hfit
    exact W.putFinK hx hb hown (hts _ hlink) hi hst hcf hin2 (by rw [q2]; exact h6) q1 q3 (by rw [hsl]; exact k2_hasslot (q4 k hk)) rfl rfl hdg end_
  · unfold u_lay at hlay
    rw [if_neg hf] at hlay
    have h6 := u_store hfc hkC hkind hlay hi (hty k hk) hn hfit
    exact W.putK hx hb (f := f) ⟨hown, hts _ hlink, ⟨_, _, _, hi⟩, hst⟩ (by rw [q2]; exact h6) q1 q3 (by rw [hsl]; exact k2_hasslot (q4 k hk)) rfl rfl hdg end_
theorem ev_rast (hP : ev_P D cy b0 b hp H) (hS : va_S (ev_A b0) s.heap H locs) {q t : Nat} {xs : List Int32} {j x : Int32} (he : hp[q]? = some (.inl (t, xs))) (hlt : j.toNatClampNeg < xs.length)
    (kk : ∀ (H1 : Heap) (locs1 : List Loc), ev_P D cy b0 b (hp.set q (.inl (t, xs.set j.toNatClampNeg x))) H1 → va_S (ev_A b0) s.heap H1 locs1 → W p l e R s m args below meth c H1 locs1 cells slots Q (F0 m (pc + 1) ls rest)) :
    ∀ H' : Heap, H'[b0 + q]? = some ((arrV (cy t) xs.length (fun j => .int (xs.getD j 0))).setSlot j.toNatClampNeg (.int x)) → H'.size = H.size → (∀ z, z ≠ b0 + q → H'[z]? = H[z]?) → W p l e R s m args below meth c H' (locs ++ [⟨b0 + q, j.toNatClampNeg⟩]) cells slots Q (F0 m (pc + 1) ls rest) := by
  intro H' e1 e2 e3
  refine kk H' _ (hP.set he e2 e3 ?_) (hS.put e2 e3 (Nat.le_add_right b0 q))
  show H'[b0 + q]? = some (vp_cell _ _)
  rw [e1, arrV_store, ev_updL xs _ x hlt]
  rw [vp_cell_i, List.length_set]
set_option maxHeartbeats 4000000 in
theorem ev_h_ok (hx : p.tables.exec = Jvm.exec) (hb : c.code = cc) {own : String} (hown : s.vm.findClass own = some m.cls) (hts : ∀ w ∈ ev_tb, w.before args s = true) (hK : va_K D vwCl (ev_ty4 cy) s) (hP : ev_P D cy b0 b hp H) (hS : va_S (ev_A b0) s.heap H locs)
    {sc : Option (List Int32)} (hsc : ∀ xs, sc = some xs → va_X b xs.length (fun j => xs.getD j 0) s s.heap ∧ b < s.heap.size ∧ b < b0) {i : Instr} {ini a bb pp : Nat} {st st' : List Value} {hp' : ev_H} (hini : ∀ k, ini = k + 1 → meth.name = "<init>" ∧ ∃ q : vw_C, vwCl[k]? = some q ∧ q.1 = own)
    (hf : ∀ idx, (i = .getfield idx ∨ i = .putfield idx) → ev_fok own idx a bb pp = true) (h : ev_h sc i ini a bb st hp = some (st', hp')) (hd : decode cc pc = .ok (i, ev_len i))
    (k : ∀ (H1 : Heap) (locs1 : List Loc), ev_P D cy b0 b hp' H1 → va_S (ev_A b0) s.heap H1 locs1 → W p l e R s m args below meth c H1 locs1 cells slots Q (F0 m (pc + ev_len i) ls (st'.map (ev_v b0 b)))) : W p l e R s m args below meth c H locs cells slots Q (F0 m pc ls (st.map (ev_v b0 b))) := by
  unfold ev_h at h
  split at h
  · -- getfield
    split at h
    · split at h
      · rename_i o ho
        split at h
        · rename_i hq
          split at h
          · rename_i v hv
            cases h
            obtain ⟨q, ty, h1, h2, h3, h4⟩ := ev_fok_ok (hf _ (Or.inl rfl))
            have hoa := ev_beq hq
            obtain ⟨oc, ofs⟩ := o
            cases hoa
            obtain ⟨C, T, N⟩ := q
            exact va_get (fs := ofs.map (ev_v b0 b)) hx hb hts (ev_cl _ _ _ h1 h2).1 hown hK hP.1 _ (ev_w_at ho) h1 bb h3 (hts _ h4) (fun _ z => z) (by rw [List.getElem?_map, hv]; rfl) hd (k H locs hP hS)
          · cases h
        · cases h
      · cases h
    · cases h
  · -- putfield
    split at h
    · split at h
      · rename_i o ho
        split at h
        · rename_i hq
          split at h
          · rename_i hlen
            split at h
            · rename_i c9 ty9 hc9 ht9
              split at h
              · rename_i hcond
                cases h
                obtain ⟨q, ty, h1, h2, h3, h4⟩ := ev_fok_ok (hf _ (Or.inr rfl))
                have hoa := ev_beq hq
                obtain ⟨oc, ofs⟩ := o
                cases hoa
                have e1 : c9 = q := Option.some.inj (hc9.symm.trans h1)
                subst e1
                refine ev_rput hx hb hown hts hK hP hS ho h1 ht9 h3 h4 ?_ hcond.2.2 hlen hd k
                rcases hcond.2.1 with z | z
                · exact Or.inl z
                · obtain ⟨g1, q2, g2, g3⟩ := hini _ z
                  have : c9 = q2 := Option.some.inj (h1.symm.trans g2)
                  subst this
                  exact Or.inr ⟨g1, g3⟩
              · cases h
            · cases h
          · cases h
        · cases h
      · cases h
    · cases h
  · -- iaload
    split at h
    · split at h
      · rename_i xs ho
        split at h
        · rename_i hi
          cases h
          exact va_iald hx hb hK hP.1 _ 0 (ev_w_at ho) rfl (ev_inn_ok hi).1 hd (k H locs hP hS)
        · cases h
      · cases h
    · split at h
      · rename_i xs
        split at h
        · rename_i hi
          cases h
          obtain ⟨g1, g2, g3⟩ := hsc _ rfl
          exact va_sld hx hb g1 g2 (Nat.not_le.mpr g3) hS (ev_inn_ok hi).1 hd (k H locs hP hS)
        · cases h
      · cases h
    · cases h
  · -- caload
    split at h
    · split at h
      · rename_i xs ho
        split at h
        · rename_i hi
          cases h
          exact va_cald hx hb hK hP.1 _ 1 (ev_w_at ho) rfl (ev_inn_ok hi).1 hd (k H locs hP hS)
        · cases h
      · cases h
    · cases h
  · -- baload
    split at h
    · split at h
      · rename_i xs ho
        split at h
        · rename_i hi
          cases h
          exact va_zald hx hb hK hP.1 _ 2 (ev_w_at ho) rfl (ev_inn_ok hi).1 hd (k H locs hP hS)
        · cases h
      · cases h
    · cases h
  · -- iastore
    split at h
    · split at h
      · rename_i xs ho
        split at h
        · rename_i hi
          cases h
          obtain ⟨hi1, hi2⟩ := ev_inn_ok hi
          exact W.iast hx hb (hP.1 _ _ (ev_w_at ho)) ((hK.2 0 _ rfl).1 xs.length (fun j => .int (xs.getD j 0))) (fun q => by cases q) (by show ¬ (_ < 0 ∨ (arrV _ _ _).slots.size ≤ _); rw [arrV_size]; exact hi1) rfl rfl hd (ev_rast hP hS ho hi2 k)
        · cases h
      · cases h
    · cases h
  · -- castore
    split at h
    · split at h
      · rename_i xs ho
        split at h
        · rename_i hi
          cases h
          obtain ⟨hi1, hi2⟩ := ev_inn_ok hi
          exact W.cast hx hb (hP.1 _ _ (ev_w_at ho)) ((hK.2 1 _ rfl).1 xs.length (fun j => .int (xs.getD j 0))) (fun q => by cases q) (by show ¬ (_ < 0 ∨ (arrV _ _ _).slots.size ≤ _); rw [arrV_size]; exact hi1) rfl rfl hd (ev_rast hP hS ho hi2 k)
        · cases h
      · cases h
    · cases h
  · -- bastore
    split at h
    · split at h
      · rename_i xs ho
        split at h
        · rename_i hi
          cases h
          obtain ⟨hi1, hi2⟩ := ev_inn_ok hi
          exact W.zast hx hb (hP.1 _ _ (ev_w_at ho)) ((hK.2 2 _ rfl).1 xs.length (fun j => .int (xs.getD j 0))) (fun q => by cases q) (by show ¬ (_ < 0 ∨ (arrV _ _ _).slots.size ≤ _); rw [arrV_size]; exact hi1) rfl rfl hd (ev_rast hP hS ho hi2 k)
        · cases h
      · cases h
    · cases h
  · -- aaload
    split at h
    · split at h
      · rename_i rs ho
        split at h
        · rename_i hi
          cases h
          obtain ⟨hi1, hi2⟩ := ev_inn_ok hi
          refine W.aald (ty := .array .int) hx hb (hP.1 _ _ (ev_w_at ho)) ((hK.2 3 _ rfl).1 rs.length (fun j => va_rf ((rs[j]?).map (fun k => b0 + k)))) rfl (fun q => by cases q) (by show ¬ (_ < 0 ∨ (arrV _ _ _).slots.size ≤ _); rw [arrV_size]; exact hi1) ?_ rfl rfl hd (k H locs hP hS)
          show (arrV _ _ _).slots[_]? = _
          rw [arrV_read _ _ hi2]
          dsimp only
          rw [List.getD_eq_getElem?_getD, List.getElem?_eq_getElem hi2]
          rfl
        · cases h
      · cases h
    · cases h
  · -- arraylength
    split at h
    · split at h
      · rename_i q r9 t xs ho
        split at h
        · rename_i ht
          cases h
          have : t = 0 ∨ t = 1 ∨ t = 2 := by omega
          rcases this with rfl | rfl | rfl
          · exact va_alen hx hb hK hP.1 _ 0 (ev_w_at ho) rfl rfl hd (k H locs hP hS)
          · exact va_alen hx hb hK hP.1 _ 1 (ev_w_at ho) rfl rfl hd (k H locs hP hS)
          · exact va_alen hx hb hK hP.1 _ 2 (ev_w_at ho) rfl rfl hd (k H locs hP hS)
        · cases h
      · cases h
    · split at h
      · cases h
        obtain ⟨g1, g2, g3⟩ := hsc _ rfl
        exact va_slen hx hb g1 g2 (Nat.not_le.mpr g3) hS hd (k H locs hP hS)
      · cases h
    · cases h
  · cases h
end EV2
/-! new cells and arraycopy -/
theorem ev_P.push {D : va_G} {cy : Nat → ClassId} {b0 b : Nat} {hp cs : ev_H} {H H1 : Heap} (h : ev_P D cy b0 b hp H) (ho : ∀ x : Nat, x < H.size → H1[x]? = H[x]?) (hz : H1.size = H.size + cs.length) (hn : ∀ (i : Nat) (c : ev_C), cs[i]? = some c → va_at D vwCl (b0 + (hp.length + i), ev_c b0 b cy c) H1) : ev_P D cy b0 b (hp ++ cs) H1 := by
  refine ⟨?_, by rw [hz, h.2, List.length_append]; omega⟩
  rw [ev_w_app]
  refine (h.1.kept (fun k x hx => ho x.1 ((h.1 k x hx).lt))).app (fun k x hx => ?_)
  simp only [List.getElem?_mapIdx] at hx
  cases hc : cs[k]? with
  | none => rw [hc] at hx; cases hx
  | some c0 => rw [hc] at hx; cases hx; exact hn k c0 hc
theorem ev_S_push {A : Nat → Prop} {H0 H H1 : Heap} {locs : List Loc} (hS : va_S A H0 H locs) (hz : H.size ≤ H1.size) (ho : ∀ x : Nat, x < H.size → H1[x]? = H[x]?) : va_S A H0 H1 locs :=
  ⟨Nat.le_trans hS.1 hz, fun x h1 h2 => (ho x (Nat.lt_of_lt_of_le h1 hS.1)).trans (hS.2.1 x h1 h2), hS.2.2⟩
theorem ev_repl (n j : Nat) : (List.replicate n (0 : Int32)).getD j 0 = 0 := by
  rw [List.getD_eq_getElem?_getD, List.getElem?_replicate]
  by_cases h : j < n <;> simp [h]
theorem ev_zero (cA : ClassId) (n t : Nat) (b0 b : Nat) (cy : Nat → ClassId) : arrV (cy t) n (fun _ => Value.int 0) = vp_cell (cy t) ((List.replicate n (0 : Int32)).length, .inl (fun i => (List.replicate n (0 : Int32)).getD i 0)) := by
  rw [vp_cell_i, List.length_replicate]
  congr 1
  funext j
  rw [ev_repl]
section EV3
variable {p : Program} {l : Launch} {e : Env} {R : Room} {s : State} {m : MethodId} {args : Array Value} {below : List Frame} {meth : Method} {c : Code} {H : Heap} {locs : List Loc} {cells slots : Nat} {Q : State → Prop}
variable {cc : ByteArray} {pc : Nat} {ls : Array Slot} {b0 b : Nat} {D : va_G} {cy : Nat → ClassId} {hp : ev_H} {rest : List Value}
theorem ev_rnew (hx : p.tables.exec = Jvm.exec) (hb : c.code = cc) {own : String} (hown : s.vm.findClass own = some m.cls) (hts : ∀ w ∈ ev_tb, w.before args s = true) (hK : va_K D vwCl (ev_ty4 cy) s) (hP : ev_P D cy b0 b hp H) (hS : va_S (ev_A b0) s.heap H locs)
    {a index : Nat} {qc : vw_C} {ty : Nat → FieldType} (hc : vwCl[a]? = some qc) (ht : ev_tys[a]? = some ty) (w1 : Cond.classLink own index qc.1 ∈ ev_tb) (w2 : Cond.instantiable qc.1 qc.2.2 ∈ ev_tb) (w3 : Cond.initialized qc.1 ∈ ev_tb) (hcells : cells + 1 ≤ R.cells) (hslots : slots + qc.2.2 ≤ R.slots) (hdg : decode cc pc = .ok (.new index, 3))
    (kk : ∀ H1 : Heap, ev_P D cy b0 b (hp ++ [.inr (.inr (a, (List.range qc.2.2).map (fun k => defaultValue (ty k))))]) H1 → va_S (ev_A b0) s.heap H1 locs → W p l e R s m args below meth c H1 locs (cells + 1) (slots + qc.2.2) Q (F0 m (pc + 3) ls (.ref (b0 + hp.length) :: rest))) : W p l e R s m args below meth c H locs cells slots Q (F0 m pc ls rest) := by
  obtain ⟨C, T, N⟩ := qc
  obtain ⟨hin, hty, hnm, hdecl⟩ := ev_cl a _ ty hc ht
  have hKn := hK.1 a _ hc
  refine W.newcK hx hb hown (hts _ w1) (hts _ w2) (hts _ w3) rfl hdg hcells hslots hKn.2.1 hP.2 fun H1 kC hkC e1 z1 o1 => ?_
  have o1' : ∀ x : Nat, x < H.size → H1[x]? = H[x]? := fun x hx => o1 x (by rw [← hP.2]; exact hx)
  refine kk H1 (hP.push o1' (by rw [z1, hP.2]; rfl) (fun i c0 hi => ?_)) (ev_S_push hS (by rw [z1, hP.2]; omega) o1')
  have hz : i < 1 := (List.getElem?_eq_some_iff.mp hi).1
  rw [show i = 0 by omega] at hi ⊢
  cases hi
  refine ⟨_, hc, (u_born ty hts hin hKn hkC e1 hty).to (fun j hj => ?_)⟩
  have hj : j < N := hj
  simp [vp_V, hj, ev_v_def]
theorem ev_rnewa (hx : p.tables.exec = Jvm.exec) (hb : c.code = cc) (hK : va_K D vwCl (ev_ty4 cy) s) (hP : ev_P D cy b0 b hp H) (hS : va_S (ev_A b0) s.heap H locs)
    {at9 : ArrayType} {t : Nat} {ty : FieldType} {n : Int32} (harr : (Cond.arrayClass (newarray.typeOf at9)).before args s = true) (ht : (ev_ty4 cy)[t]? = some (cy t, newarray.typeOf at9)) (hra : va_RA s (cy t) (newarray.typeOf at9) = (s.vm.findClass ("[" ++ (newarray.typeOf at9).toString) = some (cy t))) (hdv : defaultValue (newarray.typeOf at9) = .int 0) (hn : ¬ n < 0) (hbytes : n.toNatClampNeg * componentBytes (newarray.typeOf at9) ≤ 536870912)
    (hcells : cells + 1 ≤ R.cells) (hslots : slots + n.toNatClampNeg ≤ R.slots) (hdg : decode cc pc = .ok (.newarray at9, 2))
    (kk : ∀ H1 : Heap, ev_P D cy b0 b (hp ++ [.inl (t, List.replicate n.toNatClampNeg 0)]) H1 → va_S (ev_A b0) s.heap H1 locs → W p l e R s m args below meth c H1 locs (cells + 1) (slots + n.toNatClampNeg) Q (F0 m (pc + 2) ls (.ref (b0 + hp.length) :: rest))) : W p l e R s m args below meth c H locs cells slots Q (F0 m pc ls (.int n :: rest)) := by
  refine va_newaK hx hb harr rfl hdg rfl hn rfl hbytes hcells hslots hP.2 fun H1 cA e1 z1 o1 hAr hNm => ?_
  have hcy : s.vm.findClass ("[" ++ (newarray.typeOf at9).toString) = some (cy t) := by
    have := (hK.2 t _ ht).2
    rw [hra] at this
    exact this
  have hE : cA = cy t := Option.some.inj (hNm.symm.trans hcy)
  subst hE
  have o1' : ∀ x : Nat, x < H.size → H1[x]? = H[x]? := fun x hx => o1 x (by rw [← hP.2]; exact hx)
  refine kk H1 (hP.push o1' (by rw [z1, hP.2]; rfl) (fun i c0 hi => ?_)) (ev_S_push hS (by rw [z1, hP.2]; omega) o1')
  have hz : i < 1 := (List.getElem?_eq_some_iff.mp hi).1
  rw [show i = 0 by omega] at hi ⊢
  cases hi
  show H1[b0 + (hp.length + 0)]? = some (vp_cell _ _)
  rw [hdv] at e1
  rw [Nat.add_zero, e1, ev_zero (cy t) n.toNatClampNeg t b0 b cy]
theorem ev_rmna (hx : p.tables.exec = Jvm.exec) (hb : c.code = cc) {own : String} (hown : s.vm.findClass own = some m.cls) (hK : va_K D vwCl (ev_ty4 cy) s) (hAO : ev_AO s) (hP : ev_P D cy b0 b hp H) (hS : va_S (ev_A b0) s.heap H locs)
    {index : Nat} {n k : Int32} (w1 : (Cond.classLink own index "[[I").before args s = true) (harr : (Cond.arrayClass .int).before args s = true) (hn : ¬ n < 0) (hk : ¬ k < 0) (hn2 : n.toNatClampNeg ≤ 1000) (hk2 : k.toNatClampNeg ≤ 1000)
    (hcells : cells + (1 + n.toNatClampNeg) ≤ R.cells) (hslots : slots + (n.toNatClampNeg + n.toNatClampNeg * k.toNatClampNeg) ≤ R.slots) (hdg : decode cc pc = .ok (.multianewarray index 2, 4))
    (kk : ∀ H1 : Heap, ev_P D cy b0 b (hp ++ (.inr (.inl ((List.range n.toNatClampNeg).map (fun i => hp.length + 1 + i))) :: List.replicate n.toNatClampNeg (.inl (0, List.replicate k.toNatClampNeg 0)))) H1 → va_S (ev_A b0) s.heap H1 locs → W p l e R s m args below meth c H1 locs (cells + (1 + n.toNatClampNeg)) (slots + (n.toNatClampNeg + n.toNatClampNeg * k.toNatClampNeg)) Q (F0 m (pc + 4) ls (.ref (b0 + hp.length) :: rest))) : W p l e R s m args below meth c H locs cells slots Q (F0 m pc ls (.int k :: .int n :: rest)) := by
  intro T hT Xs
  obtain ⟨vm₁, cA, comp, -, fA, fC, hO, -, X', step⟩ := Jvm.Stand.multianewarray2F Xs hx hown (ty := .int) w1 hAO.use harr (g := F0 m pc ls (.int k :: .int n :: rest)) rfl (by rw [hb]; exact hdg) rfl hn hk (by omega) (by show k.toNatClampNeg * 4 ≤ _; omega) (by omega) rfl rfl hcells hslots
  have hc0 : s.vm.findClass ("[" ++ FieldType.int.toString) = some (cy 0) := (hK.2 0 _ rfl).2
  have hc3 : s.vm.findClass ("[" ++ (FieldType.array .int).toString) = some (cy 3) := (hK.2 3 _ rfl).2
  have ec : comp = cy 0 := Option.some.inj (fC.symm.trans hc0)
  have eA : cA = cy 3 := Option.some.inj (fA.symm.trans hc3)
  subst ec
  subst eA
  generalize hF : Jvm.Free.Multi.fill (T.setVm vm₁) (cy 3) (cy 0) n.toNatClampNeg k.toNatClampNeg (defaultValue .int) n.toNatClampNeg = F at X' step
  have hTh : (T.setVm vm₁).heap = H := hT
  obtain ⟨f1, f2, -, -⟩ := Jvm.Free.Multi.fill_facts (T.setVm vm₁) (cy 3) (cy 0) n.toNatClampNeg k.toNatClampNeg (defaultValue .int) n.toNatClampNeg
  rw [hF, hTh] at f1 f2
  have hold : ∀ x : Nat, x < H.size → F.heap[x]? = H[x]? := fun x hx => by
    have := Jvm.Free.Multi.fill_old (T.setVm vm₁) (cy 3) (cy 0) n.toNatClampNeg k.toNatClampNeg (defaultValue .int) (a := x) (by rw [hTh]; exact hx) n.toNatClampNeg
    rw [hF, hTh] at this
    exact this
  have hrow : ∀ j : Nat, j < n.toNatClampNeg → F.heap[H.size + 1 + j]? = some (Jvm.Free.Multi.innerC (cy 0) k.toNatClampNeg (defaultValue .int)) := fun j hj => by
    have := Jvm.Free.Multi.fill_inner (T.setVm vm₁) (cy 3) (cy 0) n.toNatClampNeg k.toNatClampNeg (defaultValue .int) n.toNatClampNeg j hj
    rw [hF, hTh] at this
    exact this
  have hinn : Jvm.Free.Multi.innerC (cy 0) k.toNatClampNeg (defaultValue .int) = arrV (cy 0) k.toNatClampNeg (fun _ => .int 0) := arrV_new (cy 0) k.toNatClampNeg (.int 0)
  have hout : ∀ i : Nat, Jvm.Free.Multi.outerC (cy 3) n.toNatClampNeg H.size i = arrV (cy 3) n.toNatClampNeg (fun j => va_rf (if j < i then some (H.size + 1 + j) else none)) := by
    intro i
    induction i with
    | zero =>
      show ({ cls := (cy 3), slots := Array.replicate n.toNatClampNeg .null, vm := .none } : Cell) = _
      rw [arrV_new]
      refine congrArg (arrV (cy 3) n.toNatClampNeg) (funext fun j => ?_)
      simp [va_rf]
    | succ i ih =>
      show (Jvm.Free.Multi.outerC (cy 3) n.toNatClampNeg H.size i).setSlot i (.ref (H.size + 1 + i)) = _
      rw [ih, arrV_store]
      refine congrArg (arrV (cy 3) n.toNatClampNeg) (funext fun j => ?_)
      by_cases e : j = i
      · subst e
        simp [updV, va_rf]
      · by_cases h : j < i
        · simp [updV, e, h, Nat.lt_succ_of_lt h]
        · simp [updV, e, h, show ¬ j < i + 1 by omega]
  rw [hout] at f2
  have hsz := hP.2
  have hP2 : ev_P D cy b0 b (hp ++ (.inr (.inl ((List.range n.toNatClampNeg).map (fun i => hp.length + 1 + i))) :: List.replicate n.toNatClampNeg (.inl (0, List.replicate k.toNatClampNeg 0)))) F.heap := by
    refine hP.push hold (by rw [f1]; simp; omega) (fun i c0 hi => ?_)
    cases i with
    | zero =>
      simp only [List.getElem?_cons_zero] at hi
      cases hi
      show F.heap[b0 + (hp.length + 0)]? = some (vp_cell _ _)
      rw [show b0 + (hp.length + 0) = H.size by omega, f2, vp_cell_q]
      congr 1
      rw [List.length_map, List.length_range]
      congr 1
      funext j
      congr 1
      by_cases hj : j < n.toNatClampNeg
      · simp [hj]
        omega
      · simp [hj]
    | succ i =>
      simp only [List.getElem?_cons_succ] at hi
      rw [List.getElem?_replicate] at hi
      by_cases hj : i < n.toNatClampNeg
      · rw [if_pos hj] at hi
        cases hi
        show F.heap[b0 + (hp.length + (i + 1))]? = some (vp_cell _ _)
        rw [show b0 + (hp.length + (i + 1)) = H.size + 1 + i by omega, hrow i hj, hinn, ev_zero (cy 0) k.toNatClampNeg 0 b0 b cy]
      · rw [if_neg hj] at hi
        cases hi
  obtain ⟨t, a1, b1⟩ := kk F.heap hP2 (ev_S_push hS (by rw [f1]; omega) hold) F rfl (by rw [← Nat.add_assoc, ← Nat.add_assoc]; exact X')
  refine ⟨t, step t ?_, b1⟩
  have e : T.heap.size = b0 + hp.length := by rw [hT]; exact hsz
  rw [e]
  exact a1
theorem ev_arrc {cA : ClassId} {N : Nat} {f g : Nat → Value} (h : ∀ j, j < N → f j = g j) : arrV cA N f = arrV cA N g := by
  unfold arrV
  congr 1
  congr 1
  funext j
  exact h j.val j.isLt
theorem ev_cpl {xs ys : List Int32} {sp dp n : Nat} (h4 : sp + n ≤ xs.length) (h5 : dp + n ≤ ys.length) : (ys.take dp ++ ((xs.drop sp).take n ++ ys.drop (dp + n))).length = ys.length := by
  simp only [List.length_append, List.length_take, List.length_drop]
  omega
theorem ev_cpg {xs ys : List Int32} {sp dp n j : Nat} (h4 : sp + n ≤ xs.length) (h5 : dp + n ≤ ys.length) : (ys.take dp ++ ((xs.drop sp).take n ++ ys.drop (dp + n))).getD j 0 = va_cpy (fun i => xs.getD i 0) (fun i => ys.getD i 0) sp dp n j := by
  simp only [List.getD_eq_getElem?_getD, va_cpy]
  by_cases h1 : j < dp
  · rw [List.getElem?_append_left (by simp only [List.length_take]; omega), List.getElem?_take_of_lt h1, if_neg (by omega)]
  · rw [List.getElem?_append_right (by simp only [List.length_take]; omega)]
    have e1 : (ys.take dp).length = dp := by simp only [List.length_take]; omega
    rw [e1]
    by_cases h2 : j < dp + n
    · rw [List.getElem?_append_left (by simp only [List.length_take, List.length_drop]; omega), List.getElem?_take_of_lt (by omega), List.getElem?_drop, if_pos (by omega)]
    · rw [List.getElem?_append_right (by simp only [List.length_take, List.length_drop]; omega), List.getElem?_drop, if_neg (by omega)]
      congr 2
      simp only [List.length_take, List.length_drop]
      omega
theorem ev_rcp (hx : p.tables.exec = Jvm.exec) (hb : c.code = cc) (hml : c.maxLocals = ls.size) {own : String} {index : Nat} (hown : s.vm.findClass own = some m.cls) (hlink : (Cond.methodLink own index arraycopyName).before args s = true) (hnat : (Cond.native arraycopyName).before args s = true) (hstat : (Cond.static arraycopyName).before args s = true) (hini : (Cond.initialized "java/lang/System").before args s = true)
    (hK : va_K D vwCl (ev_ty4 cy) s) (hP : ev_P D cy b0 b hp H) (hS : va_S (ev_A b0) s.heap H locs) {q0 q1 : Nat} {xs ys : List Int32} (ha0 : hp[q0]? = some (.inl (0, xs))) (ha1 : hp[q1]? = some (.inl (0, ys)))
    {sp dp n : Int32} (h1 : ¬ sp < 0) (h2 : ¬ dp < 0) (h3 : ¬ n < 0) (h4 : sp.toNatClampNeg + n.toNatClampNeg ≤ xs.length) (h5 : dp.toNatClampNeg + n.toNatClampNeg ≤ ys.length)
    (hframes : 1 ≤ R.frames) (hlocals : (rest.map fun v => v.category).sum + 18 ≤ R.locals) (hdg : decode cc pc = .ok (.invokestatic index, 3))
    (kk : ∀ (H1 : Heap) (locs1 : List Loc), ev_P D cy b0 b (hp.set q1 (.inl (0, ys.take dp.toNatClampNeg ++ ((xs.drop sp.toNatClampNeg).take n.toNatClampNeg ++ ys.drop (dp.toNatClampNeg + n.toNatClampNeg))))) H1 → va_S (ev_A b0) s.heap H1 locs1 → W p l e R s m args below meth c H1 locs1 cells slots Q (F0 m (pc + 3) ls rest)) : W p l e R s m args below meth c H locs cells slots Q (F0 m pc ls (.int n :: .int dp :: .ref (b0 + q1) :: .int sp :: .ref (b0 + q0) :: rest)) := by
  have nn : ∀ z : Int32, ¬ z < 0 → z.toInt = (z.toNatClampNeg : Int) := by
    intro z hz
    have hz0 : (0 : Int) ≤ z.toInt := by
      have := Int32.not_lt.mp hz
      simpa using Int32.le_iff_toInt_le.mp this
    show z.toInt = ((z.toInt.toNat : Nat) : Int)
    omega
  intro T hT X
  have hc0 : H[b0 + q0]? = some (vp_cell (cy 0) (xs.length, .inl (fun i => xs.getD i 0))) := hP.1 q0 _ (ev_w_at ha0)
  have hc1 : H[b0 + q1]? = some (vp_cell (cy 0) (ys.length, .inl (fun i => ys.getD i 0))) := hP.1 q1 _ (ev_w_at ha1)
  obtain ⟨-, k0, hk0, cm0, hkk0⟩ := (hK.2 0 _ rfl).1 xs.length (fun j => .int (xs.getD j 0))
  obtain ⟨-, k1, hk1, cm1, hkk1⟩ := (hK.2 0 _ rfl).1 ys.length (fun j => .int (ys.getD j 0))
  obtain ⟨vm', X', step⟩ := X.arraycopy hx hown hlink hnat hstat hini (src := b0 + q0) (dst := b0 + q1) (cs := vp_cell (cy 0) (xs.length, .inl (fun i => xs.getD i 0))) (cd := vp_cell (cy 0) (ys.length, .inl (fun i => ys.getD i 0))) (srcPos := sp) (destPos := dp) (n := n) (by rw [hT]; exact hc0) (by rw [hT]; exact hc1)
    (fun _ h => by cases h) (fun _ h => by cases h) (fun h => by cases h) (fun h => by cases h) hk0 hk1 hkk0 hkk1 (by simp [refKind]) h1 h2 h3
    (by rw [nn sp h1, nn n h3]; show ¬ _ > ((arrV (cy 0) xs.length (fun j => .int (xs.getD j 0))).slots.size : Int); rw [arrV_size]; omega)
    (by rw [nn dp h2, nn n h3]; show ¬ _ > ((arrV (cy 0) ys.length (fun j => .int (ys.getD j 0))).slots.size : Int); rw [arrV_size]; omega)
    (fun vm₁ _ i hi => by
      have e : (vp_cell (cy 0) (xs.length, .inl (fun i => xs.getD i 0))).slots.getD (sp.toNatClampNeg + i) .null = .int (xs.getD (sp.toNatClampNeg + i) 0) := by
        show (arrV (cy 0) xs.length (fun j => .int (xs.getD j 0))).slots.getD _ _ = _
        rw [Array.getD_eq_getD_getElem?, arrV_read _ _ (by omega)]
        rfl
      refine ⟨?_, ?_⟩
      · rw [e]
        rfl
      · rw [e]
        exact trivial)
    (g := F0 m pc ls (.int n :: .int dp :: .ref (b0 + q1) :: .int sp :: .ref (b0 + q0) :: rest)) rfl (by rw [hml]) (rest := rest) rfl (by rw [hb]; exact hdg) hframes (by show 2 * 0 + _ + (nativeFrameWords "java/lang/System" "arraycopy" 5 + 11) ≤ _; rw [show nativeFrameWords "java/lang/System" "arraycopy" 5 = 7 by decide +kernel]; omega)
  have e1 : copied (vp_cell (cy 0) (xs.length, .inl (fun i => xs.getD i 0))) (vp_cell (cy 0) (ys.length, .inl (fun i => ys.getD i 0))) sp dp n = vp_cell (cy 0) (ys.length, .inl (va_cpy (fun i => xs.getD i 0) (fun i => ys.getD i 0) sp.toNatClampNeg dp.toNatClampNeg n.toNatClampNeg)) := va_copied (fun z => .int z) (cy 0) (cy 0) (fun i => xs.getD i 0) (fun i => ys.getD i 0) h4
  rw [e1] at X' step
  have hl : b0 + q1 < H.size := (Array.getElem?_eq_some_iff.mp hc1).1
  generalize hnew : vp_cell (cy 0) (ys.length, .inl (va_cpy (fun i => xs.getD i 0) (fun i => ys.getD i 0) sp.toNatClampNeg dp.toNatClampNeg n.toNatClampNeg)) = nw at X' step
  have hheap : ((T.setVm vm').setCell (b0 + q1) nw).heap = H.setIfInBounds (b0 + q1) nw := by rw [← hT]; rfl
  have oq : ∀ q : Nat, q ≠ b0 + q1 → (H.setIfInBounds (b0 + q1) nw)[q]? = H[q]? := fun q hq => by simp [Array.getElem?_setIfInBounds, Ne.symm hq]
  obtain ⟨t, a1, b1⟩ := kk _ _ (hP.set ha1 (H1 := H.setIfInBounds (b0 + q1) nw) (by simp) oq (by
      show (H.setIfInBounds (b0 + q1) nw)[b0 + q1]? = some (vp_cell _ _)
      rw [Array.getElem?_setIfInBounds_self_of_lt hl, ← hnew, vp_cell_i, vp_cell_i, ev_cpl h4 h5]
      congr 1
      exact ev_arrc (fun j _ => by rw [ev_cpg h4 h5]))) ⟨by simp; exact hS.1, fun q g1 g2 => by
      rw [oq q (fun e => g2 (by rw [e]; exact Nat.le_add_right b0 q1))]
      exact hS.2.1 q g1 g2, fun q hq => by
      rcases List.mem_append.mp hq with h | h
      · exact hS.2.2 q h
      · obtain ⟨z, -, hz⟩ := List.mem_map.mp h
        rw [← hz]
        exact Nat.le_add_right b0 q1⟩ _ hheap X'
  exact ⟨t, step t a1, b1⟩
end EV3
/-! OUR MACHINE IS THE MACHINE: what ev answers, the method answers -/
theorem ev_ofW {l : Launch} {y : MethodName} {ws ws' : List Cond} {rm : Room} {Pc : Array Value → State → Prop} {Qc : Array Value → State → Outcome → State → Prop} {mc ms : Nat} {free : Addr → Prop} {cc : ByteArray} {maxL : Nat} {ret : Option FieldType}
    (hy : plainFor y = true) (hw : ws = Cond.code y cc maxL ret :: ws')
    (body : ∀ p e s m args below meth c s₁, BodyLoose p l y (headSpec ws rm) cc maxL ret e s m args below meth c s₁ → c.maxLocals = maxL → Pc args s →
      W p l e (headSpec ws rm).room s m args below meth c s.heap [] 0 0 (MQ below Qc args s mc ms free) (entryFrame m args maxL)) : Met l y ws rm Pc Qc mc ms free := by
  refine MetFree.of_bodySF (code := cc) (maxLocals := maxL) (ret := ret) hy ?_ ?_
  · intro args s m h hn
    obtain ⟨meth, c, h1, h2, h3, h4, h5, h6, -, -⟩ := Cond.code_spec hn (atoms_spec (ws := ws) h _ (by rw [hw]; exact List.mem_cons_self))
    exact ⟨meth, c, h1, h2, h3, h4, h5, h6⟩
  · intro p e s m args below meth c s₁ B hml hP _
    have hh0 : s₁.heap = s.heap := by rw [B.state]; rfl
    obtain ⟨t, a1, o, b1, b2, b3⟩ := body p e s m args below meth c s₁ B hml hP s₁ hh0 (Stand.of_body B)
    exact ⟨t, o, a1, b1, b2, ⟨b3.1, b3.2⟩⟩
theorem ev_args_m (b0 b : Nat) : ∀ (vs : List Value) (i : Nat), lv_args i (vs.map (ev_v b0 b)) = ev_lm b0 b (lv_args i vs)
  | [], _ => rfl
  | v :: vs, i => by
    show (i, ev_v b0 b v) :: lv_args (if (ev_v b0 b v).category = 2 then i + 2 else i + 1) (vs.map (ev_v b0 b)) = _
    rw [ev_v_cat, ev_args_m b0 b vs]
    rfl
theorem ev_sl_len : ∀ vs : List Value, (lg_sl vs).length = ev_sum vs
  | [] => rfl
  | v :: vs => by
    have ih := ev_sl_len vs
    have h : (lg_sl (v :: vs)).length = v.category + (lg_sl vs).length := by
      unfold lg_sl
      rw [List.flatMap_cons, List.length_append]
      rcases lv_cat v with h | h <;> simp [h]
    rw [h, ih]
    rfl
theorem ev_sum_m (b0 b : Nat) (vs : List Value) : ev_sum (vs.map (ev_v b0 b)) = ev_sum vs := by
  unfold ev_sum
  rw [List.map_map]
  congr 1
  apply List.map_congr_left
  intro v _
  exact ev_v_cat b0 b v
theorem ev_a_ok {t : List ev_E} {pc : Nat} {x : ev_E} (h : ev_a t pc = some x) : x ∈ t ∧ x.1 = pc := by
  induction t with
  | nil => cases h
  | cons q r ih =>
    unfold ev_a at h
    cases hq : Nat.beq q.1 pc with
    | true =>
      rw [hq] at h
      cases h
      exact ⟨List.mem_cons_self, ev_beq hq⟩
    | false =>
      rw [hq] at h
      obtain ⟨h1, h2⟩ := ih h
      exact ⟨List.mem_cons_of_mem _ h1, h2⟩
theorem ev_getD_mem {α : Type} {t : List (List α)} {k : Nat} {x : α} (h : x ∈ t.getD k []) : ∃ r ∈ t, x ∈ r := by
  rw [List.getD_eq_getElem?_getD] at h
  cases hk : t[k]? with
  | none => rw [hk] at h; simp at h
  | some r => rw [hk] at h; exact ⟨r, List.mem_of_getElem? hk, h⟩
theorem ev_f_ok {own : String} {cc : ByteArray} {t : ev_T} {pc : Nat} {x : ev_E} (h : ev_f t pc = some x) (ht : ev_tok own cc t = true) : x.1 = pc ∧ ev_dok cc x = true ∧ ev_eok1 own x = true := by
  obtain ⟨h1, h2⟩ := ev_a_ok h
  obtain ⟨r, hr, hx⟩ := ev_getD_mem h1
  have h3 := List.all_eq_true.mp (List.all_eq_true.mp ht r hr) x hx
  unfold ev_eok at h3
  rw [Bool.and_eq_true] at h3
  exact ⟨h2, h3.1, h3.2⟩
theorem ev_dok_ok {cc : ByteArray} {pc a b p : Nat} {i : Instr} {v : Value} (h : ev_dok cc (pc, i, a, b, p, v) = true) : ∃ len, decode cc pc = .ok (i, len) ∧ (len = ev_len i ∨ ∃ d lo hi o, i = .tableswitch d lo hi o) := by
  unfold ev_dok at h
  dsimp only at h
  split at h
  · split at h
    · rename_i j n hd
      have hj : j = _ := of_decide_eq_true h
      subst hj
      exact ⟨n, hd, Or.inr ⟨_, _, _, _, rfl⟩⟩
    · cases h
  · exact ⟨_, of_decide_eq_true h, Or.inl rfl⟩
theorem ev_ms_ok {a : Nat} {r : ev_R} (h : ev_ms a = some r) : ev_rowok r = true ∧ ev_nm a = some r.2.1 := by
  unfold ev_ms at h
  obtain ⟨l9, hl, hr⟩ := ev_getD_mem (List.mem_of_getElem? h)
  refine ⟨ev_kall l9 hl r hr, ?_⟩
  unfold ev_nm
  rw [← ev_nmall]
  have : (ev_all.map (fun l => l.map (fun r => r.2.1))).getD (a / 16) [] = (ev_all.getD (a / 16) []).map (fun r => r.2.1) := by
    rw [List.getD_eq_getElem?_getD, List.getD_eq_getElem?_getD, List.getElem?_map]
    cases ev_all[a / 16]? <;> rfl
  rw [this, List.getElem?_map, h]
  rfl
theorem ev_rw_ok {rt ini mx na rc fr lo mc ms : Nat} {t : ev_T} {y : MethodName} {cc : ByteArray} {ret : Option FieldType} {p1 p2 p3 p4 : Nat} (h : ev_rwok ((rt, ini, mx, na, rc, fr, lo, mc, ms, t), y, cc, ret, p1, p2, p3, p4) = true) :
    Cond.code y cc mx ret ∈ ev_tb ∧ Cond.initialized y.cls ∈ ev_tb ∧ plainFor y = true ∧ y.cls ≠ "java/lang/invoke/MethodHandle" ∧ y.cls ≠ "java/lang/invoke/VarHandle" ∧ (parseMethodDescriptor y.desc).map (fun d => d.parameters.length) = some na ∧ ev_rtok rt ret = true ∧
    (rc = 0 → Cond.static y ∈ ev_tb ∧ ini = 0) ∧ ∀ k, rc = k + 1 → Cond.instanceMethod y ∈ ev_tb ∧ (ini = 0 → Cond.selects y.cls y y ∈ ev_tb) ∧ (∀ j, ini = j + 1 → j = k ∧ y.name = "<init>" ∧ rt = 0) ∧ ∃ q : vw_C, vwCl[k]? = some q ∧ q.1 = y.cls := by
  unfold ev_rwok at h
  simp only [Bool.and_eq_true, decide_eq_true_eq] at h
  obtain ⟨h1, h2, h3, h4, h5, h6, h7, h8⟩ := h
  refine ⟨ev_in_ok h1, ev_in_ok h2, h3, h4, h5, h6, h7, fun z => ?_, fun k z => ?_⟩
  · subst z
    simp only [Bool.and_eq_true] at h8
    exact ⟨ev_in_ok h8.1, ev_beq h8.2⟩
  · subst z
    simp only [Bool.and_eq_true] at h8
    obtain ⟨g1, g2, g3⟩ := h8
    refine ⟨ev_in_ok g1, fun z => ?_, fun j z => ?_, ?_⟩
    · subst z
      exact ev_in_ok g2
    · subst z
      simp only [Bool.and_eq_true, decide_eq_true_eq] at g2
      exact ⟨ev_beq g2.1, g2.2.1, ev_beq g2.2.2⟩
    · cases hq : vwCl[k]? with
      | none => rw [hq] at g3; cases g3
      | some q =>
        rw [hq] at g3
        exact ⟨q, rfl, of_decide_eq_true g3⟩
theorem ev_goodL {ws : List Cond} (h : ∀ w ∈ ws, w ∈ ev_tb) : GoodIn ev_tb ws := fun w hw => ⟨h w hw, good_of_word (List.mem_filter.mp (h w hw)).2⟩
/-- what is to be shown of n steps -/
def ev_Snd (n : Nat) : Prop := ∀ (sc : Option (List Int32)) (rt ini mx na rc fr lo mc ms : Nat) (t : ev_T) (pc : Nat) (L : ev_L) (st : List Value) (hp : ev_H) (kc ks : Nat) (rv : Option Value) (hp' : ev_H),
  ev n sc (rt, ini, mx, na, rc, fr, lo, mc, ms, t) pc L st hp kc ks = some (rv, hp') → ∀ (p : Program) (l : Launch) (e : Env) (R : Room) (s : State) (m : MethodId) (args : Array Value) (below : List Frame) (meth : Method) (c : Code) (H : Heap) (locs : List Loc) (Q : State → Prop) (cc : ByteArray) (own : String) (D : va_G) (cy : Nat → ClassId) (b0 b : Nat) (ls : Array Slot),
  p.tables.exec = Jvm.exec → c.code = cc → c.maxLocals = mx → s.vm.findClass own = some m.cls → (∀ w ∈ ev_tb, w.before args s = true) → R.frames = fr → R.locals = lo → R.cells = mc → R.slots = ms → ev_K D cy s → ev_P D cy b0 b hp H → va_S (ev_A b0) s.heap H locs →
  (∀ xs, sc = some xs → va_X b xs.length (fun j => xs.getD j 0) s s.heap ∧ b < s.heap.size ∧ b < b0) → (∀ k, ini = k + 1 → meth.name = "<init>" ∧ ∃ q : vw_C, vwCl[k]? = some q ∧ q.1 = own) → ev_tok own cc t = true → lv_has ls mx (ev_lm b0 b L) → kc ≤ mc → ks ≤ ms →
  (∀ (pc' : Nat) (i : Instr) (H' : Heap) (locs' : List Loc) (ls' : Array Slot), ev_P D cy b0 b hp' H' → va_S (ev_A b0) s.heap H' locs' → decode cc pc' = .ok (i, 1) → ev_rok rt i rv.toList = some rv → W p l e R s m args below meth c H' locs' mc ms Q (F0 m pc' ls' (rv.toList.map (ev_v b0 b)))) →
  W p l e R s m args below meth c H locs kc ks Q (F0 m pc ls (st.map (ev_v b0 b)))
/-- the answer of a method, as its contract says it -/
def ev_Q (D : va_G) (cy : Nat → ClassId) (b0 b : Nat) (rv : Option Value) (hp' : ev_H) : Array Value → State → Outcome → State → Prop := match rv with
  | none => va_Qv (fun _ : Unit => True) (fun _ t => ev_P D cy b0 b hp' t.heap) (ev_A b0)
  | some (.int x) => va_Qi (fun r (_ : Unit) => r = x) (fun _ t => ev_P D cy b0 b hp' t.heap) (ev_A b0)
  | some (.long x) => va_Ql (fun r (_ : Unit) => r = x) (fun _ t => ev_P D cy b0 b hp' t.heap) (ev_A b0)
  | _ => fun _ _ _ _ => False
theorem ev_rok_st {rt : Nat} {i : Instr} {st : List Value} {rv : Option Value} (h : ev_rok rt i st = some rv) : st = rv.toList ∧ ev_len i = 1 ∧ ∀ d lo hi o, i ≠ .tableswitch d lo hi o := by
  unfold ev_rok at h
  split at h
  · split at h
    · split at h
      · cases h; exact ⟨rfl, rfl, fun _ _ _ _ q => by cases q⟩
      · split at h
        · cases h; exact ⟨rfl, rfl, fun _ _ _ _ q => by cases q⟩
        · cases h
      · split at h
        · cases h; exact ⟨rfl, rfl, fun _ _ _ _ q => by cases q⟩
        · cases h
      · cases h
    · cases h
  · split at h
    · split at h
      · cases h; exact ⟨rfl, rfl, fun _ _ _ _ q => by cases q⟩
      · cases h
    · cases h
  · split at h
    · split at h
      · cases h; exact ⟨rfl, rfl, fun _ _ _ _ q => by cases q⟩
      · cases h
    · cases h
  · cases h
theorem ev_rok_n {rt : Nat} {i : Instr} (h : ev_rok rt i [] = some none) : i = .return_ ∧ rt = 0 := by
  unfold ev_rok at h
  split at h
  · cases h
  · cases h
  · dsimp only at h
    split at h
    · exact ⟨rfl, rfl⟩
    · cases h
  · cases h
theorem ev_rok_i {rt : Nat} {i : Instr} {x : Int32} (h : ev_rok rt i [.int x] = some (some (.int x))) : i = .ireturn ∧ (rt = 1 ∨ (rt = 2 ∧ (x = 0 ∨ x = 1)) ∨ (rt = 3 ∧ narrow .char (.int x) = .int x)) := by
  unfold ev_rok at h
  split at h
  · dsimp only at h
    split at h
    · exact ⟨rfl, Or.inl rfl⟩
    · split at h
      · rename_i hq; exact ⟨rfl, Or.inr (Or.inl ⟨rfl, hq⟩)⟩
      · cases h
    · split at h
      · rename_i hq; exact ⟨rfl, Or.inr (Or.inr ⟨rfl, hq⟩)⟩
      · cases h
    · cases h
  · cases h
  · cases h
  · cases h
theorem ev_rok_l {rt : Nat} {i : Instr} {x : Int64} (h : ev_rok rt i [.long x] = some (some (.long x))) : i = .lreturn ∧ rt = 4 := by
  unfold ev_rok at h
  split at h
  · cases h
  · dsimp only at h
    split at h
    · exact ⟨rfl, rfl⟩
    · cases h
  · cases h
  · cases h
theorem ev_rok_x {rt : Nat} {i : Instr} {v : Value} {r : Option Value} (h1 : ∀ x, v ≠ .int x) (h2 : ∀ x, v ≠ .long x) (h : ev_rok rt i [v] = some r) : False := by
  unfold ev_rok at h
  split at h
  · split at h
    · rename_i hq
      cases hq
      exact h1 _ rfl
    · cases h
  · split at h
    · rename_i hq
      cases hq
      exact h2 _ rfl
    · cases h
  · cases h
  · cases h
set_option maxHeartbeats 4000000 in
theorem ev_met {n : Nat} (IH : ev_Snd n) {a rt ini mx na rc fr lo mc ms : Nat} {t : ev_T} {y : MethodName} {cc : ByteArray} {ret : Option FieldType} {p1 p2 p3 p4 : Nat} (hr : ev_ms a = some ((rt, ini, mx, na, rc, fr, lo, mc, ms, t), y, cc, ret, p1, p2, p3, p4)) {as : List Value} {hp hp' : ev_H} {rv : Option Value}
    (h : ev n none (rt, ini, mx, na, rc, fr, lo, mc, ms, t) 0 (lv_args 0 as) [] hp 0 0 = some (rv, hp')) (hsum : ev_sum as ≤ mx) (l : Launch) (D : va_G) (cy : Nat → ClassId) (b0 b : Nat) :
    Met l y (.code y cc mx ret :: ev_tb) { frames := fr, cells := mc, slots := ms, locals := lo } (va_Pc (as.map (ev_v b0 b)) (fun U => ev_P D cy b0 b hp U.heap ∧ ev_K D cy U)) (ev_Q D cy b0 b rv hp') mc ms (ev_A b0) := by
  obtain ⟨hrow, hnm⟩ := ev_ms_ok hr
  unfold ev_rowok at hrow
  rw [Bool.and_eq_true] at hrow
  obtain ⟨hrw, htk⟩ := hrow
  obtain ⟨w1, w2, hpl, w4, w5, w6, hrt, w8, w9⟩ := ev_rw_ok hrw
  refine ev_ofW (cc := cc) (maxL := mx) (ret := ret) hpl rfl ?_
  intro p e s m args below meth c s₁ B hml hv
  obtain ⟨rfl, hP, hK⟩ := hv
  have hx := B.exec
  have hb := B.bytes
  have hret := B.returns
  have hts := atoms_spec (ws := .code y cc mx ret :: ev_tb) B.pre
  have hown : s.vm.findClass y.cls = some m.cls := findClass_of_methodNamed B.named
  have hlocks := B.notSynchronized
  have hname : meth.name = y.name := (name_of_methodNamed B.named B.method).1
  rw [lg_entry_eq]
  have hl := lv_entry (as.map (ev_v b0 b)) (n := mx) (by rw [ev_sl_len, ev_sum_m]; exact hsum)
  generalize (lg_sl (as.map (ev_v b0 b)) ++ List.replicate (mx - (lg_sl (as.map (ev_v b0 b))).length) Slot.unset).toArray = ls at hl ⊢
  rw [ev_args_m] at hl
  refine IH none rt ini mx na rc fr lo mc ms t 0 (lv_args 0 as) [] hp 0 0 rv hp' h p l e _ s m _ below meth c s.heap [] _ cc y.cls D cy b0 b ls hx hb hml hown (fun w hw => hts w (List.mem_cons_of_mem _ hw)) rfl rfl rfl rfl hK hP va_S.rf (fun xs q => by cases q) ?_ htk hl (Nat.zero_le _) (Nat.zero_le _) ?_
  · intro k hk
    cases rc with
    | zero => have := (w8 rfl).2; omega
    | succ j =>
      obtain ⟨g1, g2, g3, q, g4, g5⟩ := w9 j rfl
      obtain ⟨e1, e2, e3⟩ := g3 k hk
      subst e1
      exact ⟨hname.trans e2, q, g4, g5⟩
  · intro pc' i H' locs' ls' hP' hS' hd hrok
    cases rv with
    | none =>
      obtain ⟨rfl, rfl⟩ := ev_rok_n hrok
      have hr0 : ret = none := of_decide_eq_true hrt
      exact W.vret hx hb (hret.trans hr0) (fun t9 ht hW => ⟨⟨(), rfl, trivial, by show ev_P D cy b0 b hp' t9.heap; rw [ht]; exact hP'⟩, hS'.F ht⟩) hS'.2.2 hd
    | some v =>
      cases v with
      | int x =>
        obtain ⟨rfl, hrr⟩ := ev_rok_i hrok
        rcases hrr with rfl | ⟨rfl, hq⟩ | ⟨rfl, hq⟩
        · have hr0 : ret = some .int := of_decide_eq_true hrt
          exact W.iret hx hb (hret.trans hr0) (fun t9 ht hW => ⟨⟨x, (), rfl, rfl, by show ev_P D cy b0 b hp' t9.heap; rw [ht]; exact hP'⟩, hS'.F ht⟩) hS'.2.2 hd
        · have hr0 : ret = some .boolean := of_decide_eq_true hrt
          exact W.zret hx hb (hret.trans hr0) (by rcases hq with rfl | rfl <;> rfl) (fun t9 ht hW => ⟨⟨x, (), rfl, rfl, by show ev_P D cy b0 b hp' t9.heap; rw [ht]; exact hP'⟩, hS'.F ht⟩) hS'.2.2 hd
        · have hr0 : ret = some .char := of_decide_eq_true hrt
          exact W.zret hx hb (hret.trans hr0) hq (fun t9 ht hW => ⟨⟨x, (), rfl, rfl, by show ev_P D cy b0 b hp' t9.heap; rw [ht]; exact hP'⟩, hS'.F ht⟩) hS'.2.2 hd
      | long x =>
        obtain ⟨rfl, rfl⟩ := ev_rok_l hrok
        have hr0 : ret = some .long := of_decide_eq_true hrt
        exact W.lret hx hb (hret.trans hr0) (fun t9 ht hW => ⟨⟨x, (), rfl, rfl, by show ev_P D cy b0 b hp' t9.heap; rw [ht]; exact hP'⟩, hS'.F ht⟩) hS'.2.2 hd
      | _ => exact (ev_rok_x (fun _ q => by cases q) (fun _ q => by cases q) hrok).elim
theorem ev_ka {i : Instr} {bb : Nat} (h : ev_k i bb = some 0) : (∃ idx, i = .invokevirtual idx) ∨ (∃ idx, i = .invokestatic idx ∧ bb = 0) ∨ (∃ idx, i = .invokespecial idx ∧ bb ≠ 0) := by
  unfold ev_k at h
  split at h
  · exact Or.inl ⟨_, rfl⟩
  · split at h
    · exact Or.inr (Or.inl ⟨_, rfl, rfl⟩)
    · cases h
  · split at h
    · cases h
    · rename_i hq; exact Or.inr (Or.inr ⟨_, rfl, fun z => hq z⟩)
  · cases h
theorem ev_kb {i : Instr} {bb : Nat} (h : ev_k i bb = some 1) : ∃ idx, i = .invokespecial idx ∧ bb = 0 := by
  unfold ev_k at h
  split at h
  · cases h
  · split at h <;> cases h
  · split at h
    · exact ⟨_, rfl, rfl⟩
    · cases h
  · cases h
theorem ev_kc {i : Instr} {bb : Nat} (h : ev_k i bb = some 2) : ∃ idx, i = .invokestatic idx ∧ bb ≠ 0 := by
  unfold ev_k at h
  split at h
  · cases h
  · split at h
    · cases h
    · rename_i hq; exact ⟨_, rfl, fun z => hq z⟩
  · split at h <;> cases h
  · cases h
theorem ev_ar_0 {na : Nat} {st as r : List Value} {hp : ev_H} (h : ev_ar 0 na st hp = some (as, r)) : na ≤ st.length ∧ as = (st.take na).reverse ∧ r = st.drop na := by
  unfold ev_ar at h
  dsimp only at h
  split at h
  · rename_i hq; cases h; exact ⟨hq, rfl, rfl⟩
  · cases h
theorem ev_ar_s {c na : Nat} {st as r : List Value} {hp : ev_H} (h : ev_ar (c + 1) na st hp = some (as, r)) : ∃ (q : Nat) (fs : List Value), st.drop na = .ref q :: r ∧ hp[q]? = some (.inr (.inr (c, fs))) ∧ as = .ref q :: (st.take na).reverse := by
  unfold ev_ar at h
  dsimp only at h
  split at h
  · rename_i q r9 hd
    split at h
    · rename_i o ho
      split at h
      · rename_i hq
        cases h
        obtain ⟨oc, ofs⟩ := o
        have := ev_beq hq
        have e : oc = c := this
        subst e
        exact ⟨q, ofs, hd, ho, rfl⟩
      · cases h
    · cases h
  · cases h
theorem ev_stk {b0 b na : Nat} {st : List Value} : st.map (ev_v b0 b) = (((st.take na).reverse.map (ev_v b0 b)).reverse) ++ (st.drop na).map (ev_v b0 b) := by
  rw [← List.map_reverse, List.reverse_reverse, ← List.map_append, List.take_append_drop]
theorem ev_blind (D : va_G) (cy : Nat → ClassId) (b0 b : Nat) (hp : ev_H) (av : List Value) : FrameBlind (va_Pc av (fun U => ev_P D cy b0 b hp U.heap ∧ ev_K D cy U)) := fun a U g mk q => ⟨q.1, q.2.1, q.2.2.calling⟩
/-! calls, what is new, and the whole: what ev answers, the machine does -/
section EV4
variable {p : Program} {l : Launch} {e : Env} {R : Room} {s : State} {m : MethodId} {args : Array Value} {below : List Frame} {meth : Method} {c : Code} {H : Heap} {locs : List Loc} {cells slots : Nat} {Q : State → Prop}
variable {cc : ByteArray} {pc : Nat} {ls : Array Slot} {b0 b : Nat} {D : va_G} {cy : Nat → ClassId} {hp : ev_H}
theorem ev_after {mc ms : Nat} {st0 rest : List Value} {av : Array Value} {rv : Option Value} {hp' : ev_H} (hr : va_Run p l e R s m args below meth c H locs cells slots mc ms (F0 m pc ls st0) rest (ev_Q D cy b0 b rv hp' av) (ev_A b0)) (hS : va_S (ev_A b0) s.heap H locs)
    (kk : ∀ (H1 : Heap) (locs1 : List Loc), ev_P D cy b0 b hp' H1 → va_S (ev_A b0) s.heap H1 locs1 → W p l e R s m args below meth c H1 locs1 (cells + mc) (slots + ms) Q (F0 m (pc + 3) ls (rv.toList.map (ev_v b0 b) ++ rest))) : W p l e R s m args below meth c H locs cells slots Q (F0 m pc ls st0) := by
  cases rv with
  | none => exact va_callv (a := av) hr hS (fun _ _ h => h) (fun _ h => h) (fun u t H1 locs1 ht _ _ hB _ _ hS1 => kk H1 locs1 (by have hB : ev_P D cy b0 b hp' t.heap := hB; rw [ht] at hB; exact hB) hS1)
  | some v =>
    cases v with
    | int x => exact va_calli (a := av) hr hS (fun _ _ h => h) (fun _ h => h) (fun r u t H1 locs1 ht _ hr0 hB _ _ hS1 => by
        have hB : ev_P D cy b0 b hp' t.heap := hB
        have hr0 : r = x := hr0
        subst hr0
        rw [ht] at hB
        exact kk H1 locs1 hB hS1)
    | long x => exact va_calll (a := av) hr hS (fun _ _ h => h) (fun _ h => h) (fun r u t H1 locs1 ht _ hr0 hB _ _ hS1 => by
        have hB : ev_P D cy b0 b hp' t.heap := hB
        have hr0 : r = x := hr0
        subst hr0
        rw [ht] at hB
        exact kk H1 locs1 hB hS1)
    | _ =>
      intro T hT X
      obtain ⟨v, st₀, t, T', L, h0, X', hL, e1, e2, hF, st⟩ := hr T hT X
      exact hF.elim
theorem ev_mok_ok {own : String} {idx a pp : Nat} {y : MethodName} (h : ev_mok own idx a pp = true) (hn : ev_nm a = some y) : Cond.methodLink own idx y ∈ ev_tb := by
  unfold ev_mok at h
  rw [hn] at h
  exact ev_in_ok h
theorem ev_sum_r {r : List Value} (h : ev_sum r ≤ 8) : ((r.map (ev_v b0 b)).map fun v => v.category).sum ≤ 8 := by
  have := ev_sum_m b0 b r
  unfold ev_sum at this h
  rw [this]
  exact h
set_option maxHeartbeats 4000000 in
theorem ev_call {n : Nat} (IH : ev_Snd n) (hx : p.tables.exec = Jvm.exec) (hb : c.code = cc) {own : String} (hown : s.vm.findClass own = some m.cls) (hts : ∀ w ∈ ev_tb, w.before args s = true) {mx0 : Nat} (hml : c.maxLocals = mx0) (hl : ls.size = mx0) (hK : ev_K D cy s) (hP : ev_P D cy b0 b hp H) (hS : va_S (ev_A b0) s.heap H locs)
    {i : Instr} {a bb pp : Nat} {v : Value} (hk : ev_k i bb = some 0) (hok : ev_eok1 own (pc, i, a, bb, pp, v) = true) (hd : decode cc pc = .ok (i, 3)) {rt ini mx na rc fr lo mc ms : Nat} {t : ev_T} {y : MethodName} {cc' : ByteArray} {ret : Option FieldType} {p1 p2 p3 p4 : Nat} (hr : ev_ms a = some ((rt, ini, mx, na, rc, fr, lo, mc, ms, t), y, cc', ret, p1, p2, p3, p4))
    {st as r : List Value} (har : ev_ar rc na st hp = some (as, r)) (hfit : ev_fit i (rt, ini, mx, na, rc, fr, lo, mc, ms, t) = true) (h1 : fr + 1 ≤ R.frames) (h2 : 8 + (mx + 11) + lo ≤ R.locals) (h3 : ev_sum r ≤ 8) (h4 : ev_sum as ≤ mx) (h5 : cells + mc ≤ R.cells) (h6 : slots + ms ≤ R.slots) {rv : Option Value} {hp' : ev_H}
    (hev : ev n none (rt, ini, mx, na, rc, fr, lo, mc, ms, t) 0 (lv_args 0 as) [] hp 0 0 = some (rv, hp'))
    (kk : ∀ (H1 : Heap) (locs1 : List Loc), ev_P D cy b0 b hp' H1 → va_S (ev_A b0) s.heap H1 locs1 → W p l e R s m args below meth c H1 locs1 (cells + mc) (slots + ms) Q (F0 m (pc + 3) ls (rv.toList.map (ev_v b0 b) ++ r.map (ev_v b0 b)))) : W p l e R s m args below meth c H locs cells slots Q (F0 m pc ls (st.map (ev_v b0 b))) := by
  have hM := ev_met IH hr hev h4 l D cy b0 b
  obtain ⟨hrow, hnm⟩ := ev_ms_ok hr
  unfold ev_rowok at hrow
  rw [Bool.and_eq_true] at hrow
  obtain ⟨hrw, htk⟩ := hrow
  obtain ⟨w1, w2, hpl, w4, w5, w6, hrt, w8, w9⟩ := ev_rw_ok hrw
  have hnm : ev_nm a = some y := hnm
  have hcode : ∀ w ∈ (Cond.code y cc' mx ret :: ev_tb), w ∈ ev_tb := fun w hw => by
    rcases List.mem_cons.mp hw with rfl | hw
    · exact w1
    · exact hw
  rcases ev_ka hk with ⟨idx, rfl⟩ | ⟨idx, rfl, rfl⟩ | ⟨idx, rfl, hbb⟩
  · have hlink := ev_mok_ok (own := own) (idx := idx) (pp := pp) hok hnm
    have hfit : (!(Nat.beq rc 0) && Nat.beq ini 0) = true := hfit
    cases rc with
    | zero => simp at hfit
    | succ k =>
      rw [Bool.and_eq_true] at hfit
      have hini := ev_beq hfit.2
      obtain ⟨q, fs, hst, hq, has⟩ := ev_ar_s har
      subst has
      obtain ⟨g1, g2, -, qc, g4, g5⟩ := w9 k rfl
      have hsel := g2 hini
      have hlen : (((st.take na).reverse).map (ev_v b0 b)).length = na := by
        have : (st.drop na).length = (Value.ref q :: r).length := by rw [hst]
        simp only [List.length_drop, List.length_cons] at this
        simp only [List.length_map, List.length_reverse, List.length_take]
        omega
      refine ev_after (va_runV (C := y.cls) (b := b0 + q) (As := ((st.take na).reverse).map (ev_v b0 b)) (rest := r.map (ev_v b0 b)) (nL := mx0) ⟨hx, hb, hml, hown, hts⟩ hM (cwV na hts (ev_goodL (fun w hw => ?_)) rfl rfl rfl ⟨rfl, w4, w5, w6⟩ ⟨h1, h2⟩) ⟨ev_blind D cy b0 b hp _, ?_, fun U hU hW => ⟨rfl, by rw [hU]; exact hP, hK.warm hW⟩⟩ rfl hlen hl ?_ (lv_room (ev_sum_r h3)) hd ⟨h5, h6⟩) hS kk
      · unfold wsV at hw
        rcases List.mem_append.mp hw with hw | hw
        · simp only [List.mem_cons, List.not_mem_nil, or_false] at hw
          rcases hw with rfl | rfl | rfl | rfl
          · exact hlink
          · exact g1
          · exact hsel
          · exact w2
        · exact hcode w hw
      · rw [← g5]
        exact va_recv hK.1 hP.1 g4 (ev_w_at hq)
      · show st.map (ev_v b0 b) = _
        rw [ev_stk (na := na), hst]
        rfl
  · have hlink := ev_mok_ok (own := own) (idx := idx) (pp := pp) hok hnm
    have hfit : (Nat.beq rc 0 && Nat.beq ini 0) = true := hfit
    rw [Bool.and_eq_true] at hfit
    have hrc := ev_beq hfit.1
    subst hrc
    obtain ⟨g1, g2⟩ := w8 rfl
    obtain ⟨hna, has, hr9⟩ := ev_ar_0 har
    subst has
    subst hr9
    have hlen : (((st.take na).reverse).map (ev_v b0 b)).length = na := by
      simp only [List.length_map, List.length_reverse, List.length_take]
      omega
    refine ev_after (va_runS (As := ((st.take na).reverse).map (ev_v b0 b)) (rest := (st.drop na).map (ev_v b0 b)) (nL := mx0) ⟨hx, hb, hml, hown, hts⟩ hM (va_cwS na hts (ev_goodL (fun w hw => ?_)) rfl rfl rfl ⟨w4, w5, w6⟩ ⟨h1, h2⟩) ⟨ev_blind D cy b0 b hp _, fun U hU hW => ⟨rfl, by rw [hU]; exact hP, hK.warm hW⟩⟩ rfl hlen hl ?_ (lv_room (ev_sum_r h3)) hd ⟨h5, h6⟩) hS kk
    · unfold va_wsS at hw
      rcases List.mem_append.mp hw with hw | hw
      · simp only [List.mem_cons, List.not_mem_nil, or_false] at hw
        rcases hw with rfl | rfl | rfl
        · exact hlink
        · exact g1
        · exact w2
      · exact hcode w hw
    · show st.map (ev_v b0 b) = _
      rw [← ev_stk (na := na)]
  · have hfit : (!(Nat.beq ini 0) && !(Nat.beq rc 0)) = true := hfit
    cases rc with
    | zero => simp at hfit
    | succ k =>
      cases ini with
      | zero => simp at hfit
      | succ j =>
        obtain ⟨q, fs, hst, hq, has⟩ := ev_ar_s har
        subst has
        obtain ⟨g1, -, g3, qc, g4, g5⟩ := w9 k rfl
        obtain ⟨e1, e2, e3⟩ := g3 j rfl
        subst e3
        have hr0 : ret = none := of_decide_eq_true hrt
        subst hr0
        have hlen : (((st.take na).reverse).map (ev_v b0 b)).length = na := by
          have : (st.drop na).length = (Value.ref q :: r).length := by rw [hst]
          simp only [List.length_drop, List.length_cons] at this
          simp only [List.length_map, List.length_reverse, List.length_take]
          omega
        have hstk : st.map (ev_v b0 b) = (((st.take na).reverse).map (ev_v b0 b)).reverse ++ .ref (b0 + q) :: r.map (ev_v b0 b) := by
          rw [ev_stk (na := na), hst]
          rfl
        match bb, hbb, hok with
        | 0, z, _ => exact absurd rfl z
        | 1, _, hok =>
          have hlink := ev_mok_ok (own := own) (idx := idx) (pp := pp) hok hnm
          exact ev_after (va_runI (b := b0 + q) (As := ((st.take na).reverse).map (ev_v b0 b)) (rest := r.map (ev_v b0 b)) (nL := mx0) ⟨hx, hb, hml, hown, hts⟩ hM (cwI na hts (ev_goodL hcode) rfl rfl rfl (hts _ w2) (hts _ hlink) (hts _ g1) e2 ⟨w4, w5, w6⟩ ⟨h1, h2⟩) ⟨ev_blind D cy b0 b hp _, fun U hU hW => ⟨rfl, by rw [hU]; exact hP, hK.warm hW⟩⟩ rfl hlen hl hstk (lv_room (ev_sum_r h3)) hd ⟨h5, h6⟩) hS kk
        | bb + 2, _, hok =>
          have hnest : Cond.methodLinkNest own idx y "NameHall" ∈ ev_nest := by
            have hok : (match ev_nm a with
              | some y => decide (Cond.methodLinkNest own idx y "NameHall" ∈ ev_nest)
              | none => false) = true := hok
            rw [hnm] at hok
            exact of_decide_eq_true hok
          exact ev_after (va_runIN (b := b0 + q) (As := ((st.take na).reverse).map (ev_v b0 b)) (rest := r.map (ev_v b0 b)) (nL := mx0) ⟨hx, hb, hml, hown, hts⟩ hM ⟨va_cnB na hts (ev_goodL hcode) rfl rfl rfl (hK.2.1 _ hnest) (hts _ w2) ⟨w4, w5, w6⟩ ⟨h1, h2⟩, e2, hts _ g1⟩ ⟨ev_blind D cy b0 b hp _, fun U hU hW => ⟨rfl, by rw [hU]; exact hP, hK.warm hW⟩⟩ rfl hlen hl hstk (lv_room (ev_sum_r h3)) hd ⟨h5, h6⟩) hS kk
set_option maxHeartbeats 4000000 in
theorem ev_n_ok (hx : p.tables.exec = Jvm.exec) (hb : c.code = cc) {own : String} (hown : s.vm.findClass own = some m.cls) (hts : ∀ w ∈ ev_tb, w.before args s = true) (hK : ev_K D cy s) (hP : ev_P D cy b0 b hp H) (hS : va_S (ev_A b0) s.heap H locs)
    {i : Instr} {a bb pp dc ds : Nat} {v : Value} {st st' : List Value} {hp1 : ev_H} (hok : ev_eok1 own (pc, i, a, bb, pp, v) = true) (h : ev_n i a st hp = some (st', hp1, dc, ds)) (hd : decode cc pc = .ok (i, ev_len i)) (hcl : cells + dc ≤ R.cells) (hsl : slots + ds ≤ R.slots)
    (kk : ∀ H1 : Heap, ev_P D cy b0 b hp1 H1 → va_S (ev_A b0) s.heap H1 locs → W p l e R s m args below meth c H1 locs (cells + dc) (slots + ds) Q (F0 m (pc + ev_len i) ls (st'.map (ev_v b0 b)))) : W p l e R s m args below meth c H locs cells slots Q (F0 m pc ls (st.map (ev_v b0 b))) := by
  unfold ev_n at h
  split at h
  · rename_i idx
    split at h
    · rename_i qc ty hc ht
      cases h
      unfold ev_eok1 at hok
      dsimp only at hok
      rw [hc] at hok
      cases v with
      | retAddr z =>
        simp only [Bool.and_eq_true] at hok
        exact ev_rnew hx hb hown hts hK.1 hP hS hc ht (ev_in_ok hok.1) (ev_in_ok hok.2.1) (ev_in_ok hok.2.2) hcl hsl hd kk
      | _ => simp at hok
    · cases h
  · split at h
    · rename_i n r9
      split at h
      · cases h
      · rename_i hn
        have hn1 : ¬ n < 0 := fun z => hn (Or.inl z)
        have hn2 : n.toNatClampNeg ≤ 100000 := Nat.not_lt.mp fun z => hn (Or.inr z)
        split at h
        · cases h
          exact ev_rnewa (ty := .int) (at9 := .int) hx hb hK.1 hP hS (t := 0) (hts _ ev_gAi) rfl rfl rfl hn1 (by show _ * 4 ≤ _; omega) hcl hsl hd kk
        · cases h
          exact ev_rnewa (ty := .int) (at9 := .char) hx hb hK.1 hP hS (t := 1) (hts _ ev_gAc) rfl rfl rfl hn1 (by show _ * 2 ≤ _; omega) hcl hsl hd kk
        · cases h
          exact ev_rnewa (ty := .int) (at9 := .boolean) hx hb hK.1 hP hS (t := 2) (hts _ ev_gAz) rfl rfl rfl hn1 (by show _ * 1 ≤ _; omega) hcl hsl hd kk
        · cases h
    · cases h
  · split at h
    · rename_i k n r9
      split at h
      · cases h
      · rename_i hn
        cases h
        have hn1 : ¬ n < 0 := fun z => hn (Or.inl (Or.inl z))
        have hn2 : n.toNatClampNeg ≤ 1000 := Nat.not_lt.mp fun z => hn (Or.inl (Or.inr z))
        have hk1 : ¬ k < 0 := fun z => hn (Or.inr (Or.inl z))
        have hk2 : k.toNatClampNeg ≤ 1000 := Nat.not_lt.mp fun z => hn (Or.inr (Or.inr z))
        have hok := ev_in_ok hok
        exact ev_rmna hx hb hown hK.1 hK.2.2 hP hS (hts _ hok) (hts _ ev_gAi) hn1 hk1 hn2 hk2 hcl hsl hd kk
    · cases h
  · cases h
end EV4
/-! OUR MACHINE IS THE MACHINE, in any number of steps -/
theorem ev_s_ts {d lo hi : Int} {o : Array Int} {v : Value} {st st' : List Value} (h : ev_s (.tableswitch d lo hi o) v st = some st') : False := by
  have e : ev_s (.tableswitch d lo hi o) v st = none := rfl
  rw [e] at h
  cases h
theorem ev_l_ts {d lo hi : Int} {o : Array Int} {mx : Nat} {L : ev_L} {st : List Value} {x : ev_L × List Value} (h : ev_l (.tableswitch d lo hi o) mx L st = some x) : False := by
  have e : ev_l (.tableswitch d lo hi o) mx L st = none := rfl
  rw [e] at h
  cases h
theorem ev_h_ts {d lo hi : Int} {o : Array Int} {sc : Option (List Int32)} {ini a b : Nat} {st : List Value} {hp : ev_H} {x : List Value × ev_H} (h : ev_h sc (.tableswitch d lo hi o) ini a b st hp = some x) : False := by
  have e : ev_h sc (.tableswitch d lo hi o) ini a b st hp = none := rfl
  rw [e] at h
  cases h
theorem ev_n_ts {d lo hi : Int} {o : Array Int} {a : Nat} {st : List Value} {hp : ev_H} {x : List Value × ev_H × Nat × Nat} (h : ev_n (.tableswitch d lo hi o) a st hp = some x) : False := by
  have e : ev_n (.tableswitch d lo hi o) a st hp = none := rfl
  rw [e] at h
  cases h
theorem ev_k_ts {d lo hi : Int} {o : Array Int} {bb n : Nat} (h : ev_k (.tableswitch d lo hi o) bb = some n) : False := by
  have e : ev_k (.tableswitch d lo hi o) bb = none := rfl
  rw [e] at h
  cases h
theorem ev_k_len {i : Instr} {bb n : Nat} (h : ev_k i bb = some n) : ev_len i = 3 := by
  unfold ev_k at h
  split at h
  · rfl
  · rfl
  · rfl
  · cases h
theorem ev_cp_ok {st st' : List Value} {hp hp' : ev_H} (h : ev_cp st hp = some (st', hp')) : ∃ (n dp sp : Int32) (q0 q1 : Nat) (xs ys : List Int32), st = .int n :: .int dp :: .ref q1 :: .int sp :: .ref q0 :: st' ∧ hp[q0]? = some (.inl (0, xs)) ∧ hp[q1]? = some (.inl (0, ys)) ∧
    (¬ sp < 0 ∧ ¬ dp < 0 ∧ ¬ n < 0 ∧ sp.toNatClampNeg + n.toNatClampNeg ≤ xs.length ∧ dp.toNatClampNeg + n.toNatClampNeg ≤ ys.length) ∧ hp' = hp.set q1 (.inl (0, ys.take dp.toNatClampNeg ++ ((xs.drop sp.toNatClampNeg).take n.toNatClampNeg ++ ys.drop (dp.toNatClampNeg + n.toNatClampNeg)))) := by
  unfold ev_cp at h
  split at h
  · split at h
    · rename_i h0 h1
      split at h
      · rename_i hc
        cases h
        exact ⟨_, _, _, _, _, _, _, rfl, h0, h1, hc, rfl⟩
      · cases h
    · cases h
  · cases h
set_option maxHeartbeats 8000000 in
theorem ev_sound : ∀ n, ev_Snd n := by
  intro n
  induction n with
  | zero =>
    intro sc rt ini mx na rc fr lo mc ms t pc L st hp kc ks rv hp' h
    cases h
  | succ n IH =>
    intro sc rt ini mx na rc fr lo mc ms t pc L st hp kc ks rv hp' h p l e R s m args below meth c H locs Q cc own D cy b0 b ls hx hb hml hown hts hfr hlo hmc hms hK hP hS hsc hini htk hl hkc hks kk
    unfold ev at h
    dsimp only at h
    split at h
    · cases h
    · rename_i pc9 i a bb pp v hf
      obtain ⟨e0, hdok, heok⟩ := ev_f_ok hf htk
      have e0 : pc9 = pc := e0
      subst e0
      have hdk := ev_dok_ok hdok
      have hd3 : (∀ d lo hi o, i ≠ .tableswitch d lo hi o) → decode cc pc9 = .ok (i, ev_len i) := fun hq => by
        obtain ⟨len, hd, hlen⟩ := hdk
        rcases hlen with rfl | ⟨d, lo9, hi9, o, z⟩
        · exact hd
        · exact absurd z (hq d lo9 hi9 o)
      split at h
      · rename_i st' hs
        have hd := hd3 (fun d lo9 hi9 o z => by subst z; exact ev_s_ts hs)
        refine ev_s_ok hx hb hown hs hd (fun idx x z1 z2 => ?_) (fun idx x z1 z2 => ?_) (IH sc rt ini mx na rc fr lo mc ms t _ L st' hp kc ks rv hp' h p l e R s m args below meth c H locs Q cc own D cy b0 b ls hx hb hml hown hts hfr hlo hmc hms hK hP hS hsc hini htk hl hkc hks kk)
        · subst z1; subst z2
          exact hts _ (ev_in_ok heok)
        · subst z1; subst z2
          exact hts _ (ev_in_ok heok)
      · split at h
        · rename_i L' st' hs
          have hd := hd3 (fun d lo9 hi9 o z => by subst z; exact ev_l_ts hs)
          exact ev_l_ok hx hb hs hd hl (fun ls' hl' => IH sc rt ini mx na rc fr lo mc ms t _ L' st' hp kc ks rv hp' h p l e R s m args below meth c H locs Q cc own D cy b0 b ls' hx hb hml hown hts hfr hlo hmc hms hK hP hS hsc hini htk hl' hkc hks kk)
        · split at h
          · rename_i st' hp1 hs
            have hd := hd3 (fun d lo9 hi9 o z => by subst z; exact ev_h_ts hs)
            refine ev_h_ok (pp := pp) hx hb hown hts hK.1 hP hS hsc hini (fun idx z => ?_) hs hd (fun H1 locs1 hP1 hS1 => IH sc rt ini mx na rc fr lo mc ms t _ L st' hp1 kc ks rv hp' h p l e R s m args below meth c H1 locs1 Q cc own D cy b0 b ls hx hb hml hown hts hfr hlo hmc hms hK hP1 hS1 hsc hini htk hl hkc hks kk)
            rcases z with z | z
            · subst z; exact heok
            · subst z; exact heok
          · split at h
            · rename_i pc' st' hs
              refine ev_j_ok hx hb hs hdk (fun off z => ?_) (IH sc rt ini mx na rc fr lo mc ms t pc' L st' hp kc ks rv hp' h p l e R s m args below meth c H locs Q cc own D cy b0 b ls hx hb hml hown hts hfr hlo hmc hms hK hP hS hsc hini htk hl hkc hks kk)
              rcases z with z | ⟨q, z⟩ | ⟨q, z⟩
              · subst z; exact of_decide_eq_true heok
              · subst z; exact of_decide_eq_true heok
              · subst z; exact of_decide_eq_true heok
            · split at h
              · rename_i r hs
                cases h
                obtain ⟨z1, z2, z3⟩ := ev_rok_st hs
                have hd := hd3 z3
                rw [z2] at hd
                subst z1
                exact W.widen hkc hks (kk _ i H locs ls hP hS hd hs)
              · split at h
                · rename_i hk
                  have hd := hd3 (fun d lo9 hi9 o z => by subst z; exact ev_k_ts hk)
                  rw [ev_k_len hk] at hd
                  split at h
                  · cases h
                  · rename_i rt' ini' mx' na' rc' fr' lo' mc' ms' t' rest9 hms9
                    obtain ⟨y, cc', ret, p1, p2, p3, p4⟩ := rest9
                    split at h
                    · cases h
                    · rename_i as r har
                      split at h
                      · cases h
                      · rename_i hc
                        simp only [Bool.and_eq_true] at hc
                        obtain ⟨c1, c2, c3, c4, c5, c6, c7⟩ := hc
                        have c2 := Nat.le_of_ble_eq_true c2
                        have c3 := Nat.le_of_ble_eq_true c3
                        have c4 := Nat.le_of_ble_eq_true c4
                        have c5 := Nat.le_of_ble_eq_true c5
                        have c6 := Nat.le_of_ble_eq_true c6
                        have c7 := Nat.le_of_ble_eq_true c7
                        split at h
                        · cases h
                        · rename_i hp1 hev
                          exact ev_call IH hx hb hown hts hml hl.1 hK hP hS hk heok hd hms9 har c1 (by rw [hfr]; exact c2) (by rw [hlo]; exact c3) c4 c5 (by rw [hmc]; exact c6) (by rw [hms]; exact c7) hev (fun H1 locs1 hP1 hS1 => IH sc rt ini mx na rc fr lo mc ms t _ L r hp1 _ _ rv hp' h p l e R s m args below meth c H1 locs1 Q cc own D cy b0 b ls hx hb hml hown hts hfr hlo hmc hms hK hP1 hS1 hsc hini htk hl c6 c7 kk)
                        · rename_i w hp1 hev
                          exact ev_call IH hx hb hown hts hml hl.1 hK hP hS hk heok hd hms9 har c1 (by rw [hfr]; exact c2) (by rw [hlo]; exact c3) c4 c5 (by rw [hmc]; exact c6) (by rw [hms]; exact c7) hev (fun H1 locs1 hP1 hS1 => IH sc rt ini mx na rc fr lo mc ms t _ L (w :: r) hp1 _ _ rv hp' h p l e R s m args below meth c H1 locs1 Q cc own D cy b0 b ls hx hb hml hown hts hfr hlo hmc hms hK hP1 hS1 hsc hini htk hl c6 c7 kk)
                · rename_i hk
                  have hd := hd3 (fun d lo9 hi9 o z => by subst z; exact ev_k_ts hk)
                  rw [ev_k_len hk] at hd
                  obtain ⟨idx, z1, z2⟩ := ev_kb hk
                  subst z1
                  subst z2
                  have hok := ev_in_ok (w := .methodLink own idx objectInit) heok
                  cases st with
                  | nil => cases h
                  | cons v0 r => cases v0 with
                    | ref q =>
                      dsimp only at h
                      split at h
                      · rename_i hc
                        rw [Bool.and_eq_true] at hc
                        have c1 := Nat.le_of_ble_eq_true hc.1
                        have c2 := Nat.le_of_ble_eq_true hc.2
                        refine W.objInit hx hb hown (hts _ hok) (hts _ ev_gOi) (hts _ ev_gOc) rfl (by rw [hml]; exact hl.1) rfl hd (by rw [hfr]; exact c1) ?_ ?_
                        · show 2 * 0 + ((r.map (ev_v b0 b)).map fun v => v.category).sum + 12 ≤ R.locals
                          have := ev_sum_m b0 b r
                          unfold ev_sum at this c2
                          rw [this, hlo]
                          omega
                        · exact IH sc rt ini mx na rc fr lo mc ms t _ L r hp kc ks rv hp' h p l e R s m args below meth c H locs Q cc own D cy b0 b ls hx hb hml hown hts hfr hlo hmc hms hK hP hS hsc hini htk hl hkc hks kk
                      · cases h
                    | _ => cases h
                · rename_i hk
                  have hd := hd3 (fun d lo9 hi9 o z => by subst z; exact ev_k_ts hk)
                  rw [ev_k_len hk] at hd
                  obtain ⟨idx, z1, z2⟩ := ev_kc hk
                  subst z1
                  have hok : Cond.methodLink own idx arraycopyName ∈ ev_tb := by
                    match bb, z2, heok with
                    | 0, z, _ => exact absurd rfl z
                    | bb + 1, _, hok => exact ev_in_ok hok
                  split at h
                  · rename_i st' hp1 hcp
                    split at h
                    · rename_i hc
                      rw [Bool.and_eq_true] at hc
                      have c1 := Nat.le_of_ble_eq_true hc.1
                      have c2 := Nat.le_of_ble_eq_true hc.2
                      obtain ⟨n9, dp, sp, q0, q1, xs, ys, e1, e2, e3, e4, e5⟩ := ev_cp_ok hcp
                      subst e1
                      subst e5
                      refine ev_rcp hx hb (hml.trans hl.1.symm) hown (hts _ hok) (hts _ ev_gNat) (hts _ ev_gSta) (hts _ ev_gSys) hK.1 hP hS e2 e3 e4.1 e4.2.1 e4.2.2.1 e4.2.2.2.1 e4.2.2.2.2 (by rw [hfr]; exact c1) ?_ hd (fun H1 locs1 hP1 hS1 => IH sc rt ini mx na rc fr lo mc ms t _ L st' _ kc ks rv hp' h p l e R s m args below meth c H1 locs1 Q cc own D cy b0 b ls hx hb hml hown hts hfr hlo hmc hms hK hP1 hS1 hsc hini htk hl hkc hks kk)
                      have := ev_sum_m b0 b st'
                      unfold ev_sum at this c2
                      rw [this, hlo]
                      omega
                    · cases h
                  · cases h
                · split at h
                  · rename_i st' hp1 dc ds hs
                    split at h
                    · rename_i hc
                      rw [Bool.and_eq_true] at hc
                      have c1 := Nat.le_of_ble_eq_true hc.1
                      have c2 := Nat.le_of_ble_eq_true hc.2
                      have hd := hd3 (fun d lo9 hi9 o z => by subst z; exact ev_n_ts hs)
                      exact ev_n_ok hx hb hown hts hK hP hS heok hs hd (by rw [hmc]; exact c1) (by rw [hms]; exact c2) (fun H1 hP1 hS1 => IH sc rt ini mx na rc fr lo mc ms t _ L st' hp1 _ _ rv hp' h p l e R s m args below meth c H1 locs Q cc own D cy b0 b ls hx hb hml hown hts hfr hlo hmc hms hK hP1 hS1 hsc hini htk hl c1 c2 kk)
                    · cases h
                  · cases h
