/-! cells: one step of our machine is one step of the machine -/
theorem ev_beq {a c : Nat} (h : Nat.beq a c = true) : a = c := Nat.eq_of_beq_eq_true h
theorem ev_fok_ok {own : String} {idx a bb pp : Nat} (h : ev_fok own idx a bb pp = true) : ∃ (q : vw_C) (ty : Nat → FieldType), vwCl[a]? = some q ∧ ev_tys[a]? = some ty ∧ bb < q.2.2 ∧ Cond.fieldLink own idx (q.2.1 bb).1 (q.2.1 bb).2.1 (q.2.1 bb).2.2.1 ∈ ev_tb := by
  unfold ev_fok at h
  split at h
  · rename_i q ty h1 h2
    simp only [Bool.and_eq_true, decide_eq_true_eq] at h
    exact ⟨q, ty, h1, h2, h.1, ev_in_ok h.2⟩
  · cases h
theorem ev_inn_ok {i : Int32} {n : Nat} (h : ev_inn i n = true) : vp_in i n ∧ i.toNatClampNeg < n := by
  unfold ev_inn at h
  simp only [Bool.and_eq_true, Bool.not_eq_true', decide_eq_false_iff_not, decide_eq_true_eq] at h
  exact ⟨fun q => q.elim h.1 (fun z => Nat.not_le.mpr h.2 z), h.2⟩
theorem ev_pok_ok {ty : FieldType} {v : Value} (h : ev_pok ty v = true) (b0 b : Nat) : narrow ty (ev_v b0 b v) = ev_v b0 b v ∧ fits ty (ev_v b0 b v) = true := by
  unfold ev_pok at h
  split at h
  · exact ⟨rfl, rfl⟩
  · exact ⟨rfl, rfl⟩
  · simp only [Bool.or_eq_true, beq_iff_eq] at h
    rcases h with rfl | rfl
    · exact ⟨rfl, rfl⟩
    · exact ⟨rfl, rfl⟩
  · exact ⟨rfl, rfl⟩
  · exact ⟨rfl, rfl⟩
  · cases h
theorem ev_P.set {D : va_G} {cy : Nat → ClassId} {b0 b q : Nat} {hp : ev_H} {H H1 : Heap} {c0 c1 : ev_C} (h : ev_P D cy b0 b hp H) (he : hp[q]? = some c0) (hz : H1.size = H.size) (ho : ∀ x : Nat, x ≠ b0 + q → H1[x]? = H[x]?) (hn : va_at D vwCl (b0 + q, ev_c b0 b cy c1) H1) : ev_P D cy b0 b (hp.set q c1) H1 := by
  refine ⟨?_, by rw [hz, h.2, List.length_set]⟩
  have := h.1.set (ev_w_D b0 b cy hp) (ev_w_at he) hn ho
  rw [ev_w_set] at this
  exact this
theorem ev_updL (xs : List Int32) (k : Nat) (x : Int32) (hk : k < xs.length) : updV (fun j => Value.int (xs.getD j 0)) k (.int x) = (fun j => Value.int ((xs.set k x).getD j 0)) := by
  funext j
  by_cases hj : j = k
  · subst hj
    simp [updV, hk]
  · simp [updV, hj, List.getD_eq_getElem?_getD, List.getElem?_set, Ne.symm hj]
section EV2
variable {p : Program} {l : Launch} {e : Env} {R : Room} {s : State} {m : MethodId} {args : Array Value} {below : List Frame} {meth : Method} {c : Code} {H : Heap} {locs : List Loc} {cells slots : Nat} {Q : State → Prop}
variable {cc : ByteArray} {pc : Nat} {ls : Array Slot} {b0 b : Nat} {D : va_G} {cy : Nat → ClassId} {hp : ev_H} {rest : List Value}
theorem ev_rput (hx : p.tables.exec = Jvm.exec) (hb : c.code = cc) {own : String} (hown : s.vm.findClass own = some m.cls) (hts : ∀ w ∈ ev_tb, w.before args s = true) (hK : va_K D vwCl (ev_ty4 cy) s) (hP : ev_P D cy b0 b hp H) (hS0 : va_S (ev_A b0) s.heap H locs)
    {q ci k index : Nat} {fs : List Value} {qc : vw_C} {ty : Nat → FieldType} {v : Value} (he : hp[q]? = some (.inr (.inr (ci, fs)))) (hc : vwCl[ci]? = some qc) (ht : ev_tys[ci]? = some ty) (hk : k < qc.2.2) (hlink : Cond.fieldLink own index (qc.2.1 k).1 (qc.2.1 k).2.1 (qc.2.1 k).2.2.1 ∈ ev_tb)
    (hfin : (qc.2.1 k).2.2.2 = false ∨ (meth.name = "<init>" ∧ qc.1 = own)) (hpok : ev_pok (ty k) v = true) (hl : k < fs.length) (hdg : decode cc pc = .ok (.putfield index, 3))
    (kk : ∀ (H1 : Heap) (locs1 : List Loc), ev_P D cy b0 b (hp.set q (.inr (.inr (ci, fs.set k v)))) H1 → va_S (ev_A b0) s.heap H1 locs1 → W p l e R s m args below meth c H1 locs1 cells slots Q (F0 m (pc + 3) ls rest)) : W p l e R s m args below meth c H locs cells slots Q (F0 m pc ls (ev_v b0 b v :: .ref (b0 + q) :: rest)) := by
  obtain ⟨C, T, N⟩ := qc
  obtain ⟨hin, hty, hnm, hdecl⟩ := ev_cl ci _ ty hc ht
  have hap := va_apart (own := own) hts hin ty hty hnm hK hc
  obtain ⟨r, h1, cell, q1, q2, q3, q4⟩ := hP.1 q _ (ev_w_at he)
  have hr : r = (C, T, N) := Option.some.inj (h1.symm.trans hc)
  subst hr
  obtain ⟨hS, hfc, kC, hkC, hkind⟩ := hK.1 ci _ hc
  obtain ⟨cf, kf, fi, f, hi, hsl⟩ := hS k hk
  have hlay := hts _ (hin _ (u_in_lay hk))
  have hst := (u_facts hfc hkC (u_lays hts hin hk) hi).1
  obtain ⟨hn, hfit⟩ := ev_pok_ok hpok b0 b
  have end_ : ∀ H' : Heap, H'[b0 + q]? = some (cell.setSlot f.slot (ev_v b0 b v)) → H'.size = H.size → (∀ x, x ≠ b0 + q → H'[x]? = H[x]?) → W p l e R s m args below meth c H' (locs ++ [⟨b0 + q, f.slot⟩]) cells slots Q (F0 m (pc + 3) ls rest) := by
    intro H' e1 e2 e3
    rw [hsl] at e1
    refine kk H' _ (hP.set he e2 e3 ?_) (hS0.put e2 e3 (Nat.le_add_right b0 q))
    refine ⟨_, hc, ?_⟩
    have hl' : k < (fs.map (ev_v b0 b)).length := by rw [List.length_map]; exact hl
    have := t_OB.to (V := updV (vp_V (fs.map (ev_v b0 b))) k (ev_v b0 b v)) (V' := vp_V ((fs.map (ev_v b0 b)).set k (ev_v b0 b v))) ⟨_, e1, q2, q3, t_set q4 hap hk (ev_v b0 b v)⟩ (fun j _ => vp_updV_set hl' (ev_v b0 b v) j)
    rw [List.map_set] 
    exact this
  by_cases hf : (T k).2.2.2 = true
  · unfold u_lay at hlay
    rw [if_pos hf] at hlay
    rcases hfin with h0 | ⟨hin2, hq⟩
    · exact absurd hf (by rw [show (T k).2.2.2 = false from h0]; decide)
    have hcf : m.cls = cf := by
      obtain ⟨_, _, c', _, _, _, -, -, hf', -, -, -, hown2, -⟩ := Cond.laysFinal_spec hlay
      have e1 : c' = cf := by have := hi.symm.trans hf'; simp at this; exact this.1.symm
      rw [show (T k).1 = own from (hdecl k hk).trans hq] at hown2
      rw [← e1]; exact Option.some.inj (hown.symm.trans hown2)
    have h6 := u_fits hfc hkC hkind (Or.inr hlay) hi (hty k hk) hn hfit
    exact W.putFinK hx hb hown (hts _ hlink) hi hst hcf hin2 (by rw [q2]; exact h6) q1 q3 (by rw [hsl]; exact k2_hasslot (q4 k hk)) rfl rfl hdg end_
  · unfold u_lay at hlay
    rw [if_neg hf] at hlay
    have h6 := u_store hfc hkC hkind hlay hi (hty k hk) hn hfit
    exact W.putK hx hb (f := f) ⟨hown, hts _ hlink, ⟨_, _, _, hi⟩, hst⟩ (by rw [q2]; exact h6) q1 q3 (by rw [hsl]; exact k2_hasslot (q4 k hk)) rfl rfl hdg end_
theorem ev_rast (hP : ev_P D cy b0 b hp H) (hS : va_S (ev_A b0) s.heap H locs) {q t : Nat} {xs : List Int32} {j x : Int32} (he : hp[q]? = some (.inl (t, xs))) (hlt : j.toNatClampNeg < xs.length)
    (kk : ∀ (H1 : Heap) (locs1 : List Loc), ev_P D cy b0 b (hp.set q (.inl (t, xs.set j.toNatClampNeg x))) H1 → va_S (ev_A b0) s.heap H1 locs1 → W p l e R s m args below meth c H1 locs1 cells slots Q (F0 m (pc + 1) ls rest)) :
    ∀ H' : Heap, H'[b0 + q]? = some ((arrV (cy t) xs.length (fun j => .int (xs.getD j 0))).setSlot j.toNatClampNeg (.int x)) → H'.size = H.size → (∀ z, z ≠ b0 + q → H'[z]? = H[z]?) → W p l e R s m args below meth c H' (locs ++ [⟨b0 + q, j.toNatClampNeg⟩]) cells slots Q (F0 m (pc + 1) ls rest) := by
  intro H' e1 e2 e3
  refine kk H' _ (hP.set he e2 e3 ?_) (hS.put e2 e3 (Nat.le_add_right b0 q))
  show H'[b0 + q]? = some (vp_cell _ _)
  rw [e1, arrV_store, ev_updL xs _ x hlt]
  rw [vp_cell_i, List.length_set]
set_option maxHeartbeats 4000000 in
theorem ev_h_ok (hx : p.tables.exec = Jvm.exec) (hb : c.code = cc) {own : String} (hown : s.vm.findClass own = some m.cls) (hts : ∀ w ∈ ev_tb, w.before args s = true) (hK : va_K D vwCl (ev_ty4 cy) s) (hP : ev_P D cy b0 b hp H) (hS : va_S (ev_A b0) s.heap H locs)
    {sc : Option (List Int32)} (hsc : ∀ xs, sc = some xs → va_X b xs.length (fun j => xs.getD j 0) s s.heap ∧ b < s.heap.size ∧ b < b0) {i : Instr} {ini a bb pp : Nat} {st st' : List Value} {hp' : ev_H} (hini : ∀ k, ini = k + 1 → meth.name = "<init>" ∧ ∃ q : vw_C, vwCl[k]? = some q ∧ q.1 = own)
    (hf : ∀ idx, (i = .getfield idx ∨ i = .putfield idx) → ev_fok own idx a bb pp = true) (h : ev_h sc i ini a bb st hp = some (st', hp')) (hd : decode cc pc = .ok (i, ev_len i))
    (k : ∀ (H1 : Heap) (locs1 : List Loc), ev_P D cy b0 b hp' H1 → va_S (ev_A b0) s.heap H1 locs1 → W p l e R s m args below meth c H1 locs1 cells slots Q (F0 m (pc + ev_len i) ls (st'.map (ev_v b0 b)))) : W p l e R s m args below meth c H locs cells slots Q (F0 m pc ls (st.map (ev_v b0 b))) := by
  unfold ev_h at h
  split at h
  · -- getfield
    split at h
    · split at h
      · rename_i o ho
        split at h
        · rename_i hq
          split at h
          · rename_i v hv
            cases h
            obtain ⟨q, ty, h1, h2, h3, h4⟩ := ev_fok_ok (hf _ (Or.inl rfl))
            have hoa := ev_beq hq
            obtain ⟨oc, ofs⟩ := o
            cases hoa
            obtain ⟨C, T, N⟩ := q
            exact va_get (fs := ofs.map (ev_v b0 b)) hx hb hts (ev_cl _ _ _ h1 h2).1 hown hK hP.1 _ (ev_w_at ho) h1 bb h3 (hts _ h4) (fun _ z => z) (by rw [List.getElem?_map, hv]; rfl) hd (k H locs hP hS)
          · cases h
        · cases h
      · cases h
    · cases h
  · -- putfield
    split at h
    · split at h
      · rename_i o ho
        split at h
        · rename_i hq
          split at h
          · rename_i hlen
            split at h
            · rename_i c9 ty9 hc9 ht9
              split at h
              · rename_i hcond
                cases h
                obtain ⟨q, ty, h1, h2, h3, h4⟩ := ev_fok_ok (hf _ (Or.inr rfl))
                have hoa := ev_beq hq
                obtain ⟨oc, ofs⟩ := o
                cases hoa
                have e1 : c9 = q := Option.some.inj (hc9.symm.trans h1)
                subst e1
                refine ev_rput hx hb hown hts hK hP hS ho h1 ht9 h3 h4 ?_ hcond.2.2 hlen hd k
                rcases hcond.2.1 with z | z
                · exact Or.inl z
                · obtain ⟨g1, q2, g2, g3⟩ := hini _ z
                  have : c9 = q2 := Option.some.inj (h1.symm.trans g2)
                  subst this
                  exact Or.inr ⟨g1, g3⟩
              · cases h
            · cases h
          · cases h
        · cases h
      · cases h
    · cases h
  · -- iaload
    split at h
    · split at h
      · rename_i xs ho
        split at h
        · rename_i hi
          cases h
          exact va_iald hx hb hK hP.1 _ 0 (ev_w_at ho) rfl (ev_inn_ok hi).1 hd (k H locs hP hS)
        · cases h
      · cases h
    · split at h
      · rename_i xs
        split at h
        · rename_i hi
          cases h
          obtain ⟨g1, g2, g3⟩ := hsc _ rfl
          exact va_sld hx hb g1 g2 (Nat.not_le.mpr g3) hS (ev_inn_ok hi).1 hd (k H locs hP hS)
        · cases h
      · cases h
    · cases h
  · -- caload
    split at h
    · split at h
      · rename_i xs ho
        split at h
        · rename_i hi
          cases h
          exact va_cald hx hb hK hP.1 _ 1 (ev_w_at ho) rfl (ev_inn_ok hi).1 hd (k H locs hP hS)
        · cases h
      · cases h
    · cases h
  · -- baload
    split at h
    · split at h
      · rename_i xs ho
        split at h
        · rename_i hi
          cases h
          exact va_zald hx hb hK hP.1 _ 2 (ev_w_at ho) rfl (ev_inn_ok hi).1 hd (k H locs hP hS)
        · cases h
      · cases h
    · cases h
  · -- iastore
    split at h
    · split at h
      · rename_i xs ho
        split at h
        · rename_i hi
          cases h
          obtain ⟨hi1, hi2⟩ := ev_inn_ok hi
          exact W.iast hx hb (hP.1 _ _ (ev_w_at ho)) ((hK.2 0 _ rfl).1 xs.length (fun j => .int (xs.getD j 0))) (fun q => by cases q) (by show ¬ (_ < 0 ∨ (arrV _ _ _).slots.size ≤ _); rw [arrV_size]; exact hi1) rfl rfl hd (ev_rast hP hS ho hi2 k)
        · cases h
      · cases h
    · cases h
  · -- castore
    split at h
    · split at h
      · rename_i xs ho
        split at h
        · rename_i hi
          cases h
          obtain ⟨hi1, hi2⟩ := ev_inn_ok hi
          exact W.cast hx hb (hP.1 _ _ (ev_w_at ho)) ((hK.2 1 _ rfl).1 xs.length (fun j => .int (xs.getD j 0))) (fun q => by cases q) (by show ¬ (_ < 0 ∨ (arrV _ _ _).slots.size ≤ _); rw [arrV_size]; exact hi1) rfl rfl hd (ev_rast hP hS ho hi2 k)
        · cases h
      · cases h
    · cases h
  · -- bastore
    split at h
    · split at h
      · rename_i xs ho
        split at h
        · rename_i hi
          cases h
          obtain ⟨hi1, hi2⟩ := ev_inn_ok hi
          exact W.zast hx hb (hP.1 _ _ (ev_w_at ho)) ((hK.2 2 _ rfl).1 xs.length (fun j => .int (xs.getD j 0))) (fun q => by cases q) (by show ¬ (_ < 0 ∨ (arrV _ _ _).slots.size ≤ _); rw [arrV_size]; exact hi1) rfl rfl hd (ev_rast hP hS ho hi2 k)
        · cases h
      · cases h
    · cases h
  · -- aaload
    split at h
    · split at h
      · rename_i rs ho
        split at h
        · rename_i hi
          cases h
          obtain ⟨hi1, hi2⟩ := ev_inn_ok hi
          refine W.aald (ty := .array .int) hx hb (hP.1 _ _ (ev_w_at ho)) ((hK.2 3 _ rfl).1 rs.length (fun j => va_rf ((rs[j]?).map (fun k => b0 + k)))) rfl (fun q => by cases q) (by show ¬ (_ < 0 ∨ (arrV _ _ _).slots.size ≤ _); rw [arrV_size]; exact hi1) ?_ rfl rfl hd (k H locs hP hS)
          show (arrV _ _ _).slots[_]? = _
          rw [arrV_read _ _ hi2]
          dsimp only
          rw [List.getD_eq_getElem?_getD, List.getElem?_eq_getElem hi2]
          rfl
        · cases h
      · cases h
    · cases h
  · -- arraylength
    split at h
    · split at h
      · rename_i q r9 t xs ho
        split at h
        · rename_i ht
          cases h
          have : t = 0 ∨ t = 1 ∨ t = 2 := by omega
          rcases this with rfl | rfl | rfl
          · exact va_alen hx hb hK hP.1 _ 0 (ev_w_at ho) rfl rfl hd (k H locs hP hS)
          · exact va_alen hx hb hK hP.1 _ 1 (ev_w_at ho) rfl rfl hd (k H locs hP hS)
          · exact va_alen hx hb hK hP.1 _ 2 (ev_w_at ho) rfl rfl hd (k H locs hP hS)
        · cases h
      · cases h
    · split at h
      · cases h
        obtain ⟨g1, g2, g3⟩ := hsc _ rfl
        exact va_slen hx hb g1 g2 (Nat.not_le.mpr g3) hS hd (k H locs hP hS)
      · cases h
    · cases h
  · cases h
end EV2
