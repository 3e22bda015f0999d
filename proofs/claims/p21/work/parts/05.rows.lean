/-! one step of our machine is one step of the machine -/
section EV1
variable {p : Program} {l : Launch} {e : Env} {R : Room} {s : State} {m : MethodId} {args : Array Value} {below : List Frame} {meth : Method} {c : Code} {H : Heap} {locs : List Loc} {cells slots : Nat} {Q : State → Prop}
variable {cc : ByteArray} {pc : Nat} {ls : Array Slot} {b0 b : Nat}
set_option maxHeartbeats 4000000 in
theorem ev_s_ok (hx : p.tables.exec = Jvm.exec) (hb : c.code = cc) {own : String} (hown : s.vm.findClass own = some m.cls) {i : Instr} {v : Value} {st st' : List Value} (h : ev_s i v st = some st') (hd : decode cc pc = .ok (i, ev_len i))
    (hc : ∀ (idx : Nat) (x : Int32), i = .ldc_w idx → v = .int x → (Cond.constant own idx x).before args s = true) (hc2 : ∀ (idx : Nat) (x : Int64), i = .ldc2_w idx → v = .long x → (Cond.constantLong own idx x).before args s = true)
    (k : W p l e R s m args below meth c H locs cells slots Q (F0 m (pc + ev_len i) ls (st'.map (ev_v b0 b)))) : W p l e R s m args below meth c H locs cells slots Q (F0 m pc ls (st.map (ev_v b0 b))) := by
  unfold ev_s at h
  split at h
  · cases h; exact lv_iconst hx hb hd rfl k
  · cases h; exact lv_bipush hx hb hd rfl k
  · cases h; exact lv_sipush hx hb hd rfl k
  · cases h; exact lv_lconst hx hb hd rfl k
  · split at h
    · cases h; exact lv_ldcw hx hb hown (hc _ _ rfl rfl) hd k
    · cases h
  · split at h
    · cases h; exact lv_ldc2 hx hb hown (hc2 _ _ rfl rfl) hd k
    · cases h
  · split at h
    · cases h; exact lv_iadd hx hb hd k
    · cases h
  · split at h
    · cases h; exact lv_isub hx hb hd k
    · cases h
  · split at h
    · cases h; exact lv_imul hx hb hd k
    · cases h
  · split at h
    · cases h; exact lv_iand hx hb hd k
    · cases h
  · split at h
    · cases h; exact lv_ior hx hb hd k
    · cases h
  · split at h
    · cases h; exact lv_ixor hx hb hd k
    · cases h
  · split at h
    · cases h; exact lv_ishl hx hb hd k
    · cases h
  · split at h
    · cases h; exact lv_ishr hx hb hd k
    · cases h
  · split at h
    · cases h; exact lv_iushr hx hb hd rfl k
    · cases h
  · split at h
    · split at h
      · cases h
      · cases h; exact lv_idiv hx hb hd (by assumption) k
    · cases h
  · split at h
    · split at h
      · cases h
      · cases h; exact lv_irem hx hb hd (by assumption) k
    · cases h
  · split at h
    · cases h; exact lv_ineg hx hb hd k
    · cases h
  · split at h
    · cases h; exact lv_i2l hx hb hd rfl k
    · cases h
  · split at h
    · cases h; exact lv_i2c hx hb hd rfl k
    · cases h
  · split at h
    · cases h; exact lv_l2i hx hb hd rfl k
    · cases h
  · split at h
    · cases h; exact lv_ladd hx hb hd k
    · cases h
  · split at h
    · cases h; exact lv_lmul hx hb hd k
    · cases h
  · split at h
    · cases h; exact lv_land hx hb hd k
    · cases h
  · split at h
    · cases h; exact lv_lor hx hb hd k
    · cases h
  · split at h
    · split at h
      · cases h
      · cases h; exact lv_lrem hx hb hd (by assumption) k
    · cases h
  · split at h
    · cases h; exact lv_lshl hx hb hd rfl k
    · cases h
  · split at h
    · cases h; exact lv_lushr hx hb hd rfl k
    · cases h
  · split at h
    · cases h; exact W.lcmp hx hb hd k
    · cases h
  · split at h
    · cases h; exact lv_dup hx hb hd rfl k
    · cases h; exact lv_dup hx hb hd rfl k
    · cases h
  · split at h
    · cases h; exact lv_pop hx hb hd rfl k
    · cases h
  · split at h
    · cases h; exact lv_dup2_11 hx hb hd rfl rfl k
    · cases h; exact lv_dup2_11 hx hb hd rfl rfl k
    · cases h
  · split at h
    · cases h; exact lv_pop2_2 hx hb hd rfl k
    · cases h
  · cases h
theorem ev_lk_in {L : ev_L} {k : Nat} {v : Value} (h : ev_lk L k = some v) : (k, v) ∈ L := by
  induction L with
  | nil => cases h
  | cons q r ih =>
    unfold ev_lk at h
    cases hq : Nat.beq q.1 k with
    | true =>
      rw [hq] at h
      cases h
      have : q.1 = k := Nat.eq_of_beq_eq_true hq
      subst this
      exact List.mem_cons_self
    | false =>
      rw [hq] at h
      exact List.mem_cons_of_mem _ (ih h)
def ev_lm (b0 b : Nat) (L : ev_L) : List (Nat × Value) := L.map (fun q => (q.1, ev_v b0 b q.2))
theorem ev_lk_at {nL : Nat} {L : ev_L} {k : Nat} {v : Value} (h : ev_lk L k = some v) (hl : lv_has ls nL (ev_lm b0 b L)) : ls[k]? = some (.val (ev_v b0 b v)) :=
  hl.2.2 (k, ev_v b0 b v) (List.mem_map.mpr ⟨_, ev_lk_in h, rfl⟩)
theorem ev_s1_m (L : ev_L) (k : Nat) (v : Value) : (k, ev_v b0 b v) :: (ev_lm b0 b L).filter (fun q => !(q.1 == k) && !(q.1 + 1 == k && q.2.category == 2)) = ev_lm b0 b (ev_s1 L k v) := by
  simp only [ev_lm, ev_s1, List.map_cons, List.filter_map]
  congr 2
  apply List.filter_congr
  intro q _
  simp only [Function.comp, ev_v_cat]
theorem ev_s2_m (L : ev_L) (k : Nat) (v : Value) : (k, ev_v b0 b v) :: (ev_lm b0 b L).filter (fun q => !(q.1 == k) && (!(q.1 == k + 1) && !(q.1 + 1 == k && q.2.category == 2))) = ev_lm b0 b (ev_s2 L k v) := by
  simp only [ev_lm, ev_s2, List.map_cons, List.filter_map]
  congr 2
  apply List.filter_congr
  intro q _
  simp only [Function.comp, ev_v_cat]
theorem ev_iinc {nL i : Nat} {n : Int} {x : Int32} {lv : List (Nat × Value)} {rest : List Value} (hx : p.tables.exec = Jvm.exec) (hb : c.code = cc) (hd : decode cc pc = .ok (.iinc i n, 3)) (h : lv_has ls nL lv) (hk : (i, Value.int x) ∈ lv) (hn : i < nL)
    (kk : ∀ ls' : Array Slot, lv_has ls' nL ((i, Value.int (x + Int32.ofInt n)) :: lv.filter (fun q => !(q.1 == i) && !(q.1 + 1 == i && q.2.category == 2))) → W p l e R s m args below meth c H locs cells slots Q (F0 m (pc + 3) ls' rest)) : W p l e R s m args below meth c H locs cells slots Q (F0 m pc ls rest) := by
  obtain ⟨k, hk⟩ := List.getElem?_of_mem hk
  exact lv_iinc hx hb hd h hk rfl hn rfl kk
set_option maxHeartbeats 4000000 in
theorem ev_l_ok (hx : p.tables.exec = Jvm.exec) (hb : c.code = cc) {i : Instr} {mx : Nat} {L L' : ev_L} {st st' : List Value} (h : ev_l i mx L st = some (L', st')) (hd : decode cc pc = .ok (i, ev_len i)) (hl : lv_has ls mx (ev_lm b0 b L))
    (k : ∀ ls' : Array Slot, lv_has ls' mx (ev_lm b0 b L') → W p l e R s m args below meth c H locs cells slots Q (F0 m (pc + ev_len i) ls' (st'.map (ev_v b0 b)))) : W p l e R s m args below meth c H locs cells slots Q (F0 m pc ls (st.map (ev_v b0 b))) := by
  unfold ev_l at h
  split at h
  · split at h
    · cases h; exact lv_iload_n hx hb hd rfl (ev_lk_at (by assumption) hl) (k ls hl)
    · cases h
  · split at h
    · cases h; exact lv_iload hx hb hd (ev_lk_at (by assumption) hl) (k ls hl)
    · cases h
  · split at h
    · cases h; exact lv_lload_n hx hb hd rfl (ev_lk_at (by assumption) hl) (k ls hl)
    · cases h
  · split at h
    · cases h; exact lv_lload hx hb hd (ev_lk_at (by assumption) hl) (k ls hl)
    · cases h
  · split at h
    · cases h; exact lv_aload_n hx hb hd rfl (ev_lk_at (by assumption) hl) (k ls hl)
    · cases h; exact lv_aload_n hx hb hd rfl (ev_lk_at (by assumption) hl) (k ls hl)
    · cases h
  · split at h
    · split at h
      · cases h; exact lv_istore_n hx hb hd rfl hl (by assumption) (ev_s1_m (b0 := b0) (b := b) L _ (.int _)) k
      · cases h
    · cases h
  · split at h
    · split at h
      · cases h; exact lv_istore hx hb hd hl (by assumption) (ev_s1_m (b0 := b0) (b := b) L _ (.int _)) k
      · cases h
    · cases h
  · split at h
    · split at h
      · cases h; exact lv_lstore_n hx hb hd rfl hl (by assumption) (ev_s2_m (b0 := b0) (b := b) L _ (.long _)) k
      · cases h
    · cases h
  · split at h
    · split at h
      · cases h; exact lv_astore_n hx hb hd rfl hl (by assumption) (ev_s1_m (b0 := b0) (b := b) L _ (.ref _)) k
      · cases h
    · cases h
  · split at h
    · split at h
      · cases h
        exact ev_iinc hx hb hd hl (List.mem_map.mpr ⟨_, ev_lk_in (by assumption), rfl⟩) (by assumption) (fun ls' h' => k ls' ((ev_s1_m _ _ (.int _)) ▸ h'))
      · cases h
    · cases h
  · cases h
set_option maxHeartbeats 4000000 in
theorem ev_j_ok (hx : p.tables.exec = Jvm.exec) (hb : c.code = cc) {i : Instr} {a pc' : Nat} {st st' : List Value} (h : ev_j i pc a st = some (pc', st')) (hd : ∃ len, decode cc pc = .ok (i, len) ∧ (len = ev_len i ∨ ∃ d lo hi o, i = .tableswitch d lo hi o))
    (ha : ∀ off, (i = .goto off ∨ (∃ q, i = .ifCond q off) ∨ ∃ q, i = .if_icmp q off) → (pc : Int) + off = (a : Int))
    (k : W p l e R s m args below meth c H locs cells slots Q (F0 m pc' ls (st'.map (ev_v b0 b)))) : W p l e R s m args below meth c H locs cells slots Q (F0 m pc ls (st.map (ev_v b0 b))) := by
  obtain ⟨len, hd, hlen⟩ := hd
  unfold ev_j at h
  split at h
  · cases h
    rcases hlen with rfl | ⟨_, _, _, _, q⟩
    · exact lv_goto hx hb hd (ha _ (Or.inl rfl)) k
    · cases q
  · rcases hlen with rfl | ⟨_, _, _, _, q⟩
    · split at h
      · have ha' := ha _ (Or.inr (Or.inl ⟨_, rfl⟩))
        split at h
        · cases h; exact lv_if_eq hx hb hd ha' (fun q => by rw [if_pos q] at k; exact k) (fun q => by rw [if_neg q] at k; exact k)
        · cases h; exact lv_if_ne hx hb hd ha' (fun q => by rw [if_neg q] at k; exact k) (fun q => by rw [if_pos q] at k; exact k)
        · cases h; exact lv_if_lt hx hb hd ha' (fun q => by rw [if_pos q] at k; exact k) (fun q => by rw [if_neg q] at k; exact k)
        · cases h; exact lv_if_ge hx hb hd ha' (fun q => by rw [if_pos q] at k; exact k) (fun q => by rw [if_neg q] at k; exact k)
        · cases h; exact lv_if_gt hx hb hd ha' (fun q => by rw [if_pos q] at k; exact k) (fun q => by rw [if_neg q] at k; exact k)
        · cases h; exact lv_if_le hx hb hd ha' (fun q => by rw [if_pos q] at k; exact k) (fun q => by rw [if_neg q] at k; exact k)
      · cases h
    · cases q
  · rcases hlen with rfl | ⟨_, _, _, _, q⟩
    · split at h
      · have ha' := ha _ (Or.inr (Or.inr ⟨_, rfl⟩))
        split at h
        · cases h; exact lv_icmp_eq hx hb hd ha' (fun q => by rw [if_pos q] at k; exact k) (fun q => by rw [if_neg q] at k; exact k)
        · cases h; exact lv_icmp_ne hx hb hd ha' (fun q => by rw [if_neg q] at k; exact k) (fun q => by rw [if_pos q] at k; exact k)
        · cases h; exact lv_icmp_lt hx hb hd ha' (fun q => by rw [if_pos q] at k; exact k) (fun q => by rw [if_neg q] at k; exact k)
        · cases h; exact lv_icmp_ge hx hb hd ha' (fun q => by rw [if_pos q] at k; exact k) (fun q => by rw [if_neg q] at k; exact k)
        · cases h; exact lv_icmp_gt hx hb hd ha' (fun q => by rw [if_pos q] at k; exact k) (fun q => by rw [if_neg q] at k; exact k)
        · cases h; exact lv_icmp_le hx hb hd ha' (fun q => by rw [if_pos q] at k; exact k) (fun q => by rw [if_neg q] at k; exact k)
      · cases h
    · cases q
  · split at h
    · split at h
      · split at h
        · cases h
          exact lv_tableOut hx hb hd (by assumption) (by assumption) k
        · cases h
      · rename_i hq
        split at h
        · split at h
          · cases h
            exact lv_tableIn hx hb hd (fun z => hq (Or.inl z)) (fun z => hq (Or.inr z)) (by rw [← Array.getElem?_toList]; assumption) (by assumption) k
          · cases h
        · cases h
    · cases h
  · cases h
end EV1
