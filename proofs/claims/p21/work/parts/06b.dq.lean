/-! what stands at a place of the code: by its bytes -/
noncomputable def dq_K (pc : Nat) : { K : Nat → Decoder Instr // Decoder.instr pc = ((Reader.u1 : Decoder Nat) >>= K) } := ⟨_, rfl⟩
theorem dq_bind {α β : Type} (x : Decoder α) (f : α → Decoder β) {cc : ByteArray} {p p' : Nat} {a : α} (h : x cc p = .ok (a, p')) : (x >>= f) cc p = f a cc p' := by
  have e : (x >>= f) cc p = Except.bind (x cc p) (fun q => f q.1 cc q.2) := rfl
  rw [e, h]
  rfl
theorem dq_map {α β : Type} (g : α → β) (x : Decoder α) {cc : ByteArray} {p p' : Nat} {a : α} (h : x cc p = .ok (a, p')) : (g <$> x) cc p = .ok (g a, p') := by
  have e : (g <$> x) cc p = Except.bind (x cc p) (fun q => .ok (g q.1, q.2)) := rfl
  rw [e, h]
  rfl
def dq_b (cc : ByteArray) (pc b : Nat) : Prop := ∃ h : pc < cc.size, (cc[pc]'h).toNat = b
theorem dq_rd {cc : ByteArray} {pc b : Nat} (h : dq_b cc pc b) : (Reader.u1 : Decoder Nat) cc pc = .ok (b, pc + 1) := by
  obtain ⟨h, hb⟩ := h
  have e : (Reader.u1 : Decoder Nat) cc pc = (if h : pc < cc.size then (do set (pc + 1); pure (cc[pc]'h).toNat : Decoder Nat) else throw (HasTruncated.truncated pc)) cc pc := rfl
  rw [e, dif_pos h, ← hb]
  rfl
theorem dq_rd2 {cc : ByteArray} {pc a b : Nat} (h1 : dq_b cc pc a) (h2 : dq_b cc (pc + 1) b) : (Reader.u2 : Decoder Nat) cc pc = .ok (a * 256 + b, pc + 1 + 1) :=
  (dq_bind (Reader.u1 : Decoder Nat) _ (dq_rd h1)).trans ((dq_bind (Reader.u1 : Decoder Nat) _ (dq_rd h2)).trans rfl)
theorem dq_dec {cc : ByteArray} {pc : Nat} {i : Instr} {n : Nat} (h : (Decoder.instr pc) cc pc = .ok (i, n)) : decode cc pc = .ok (i, n - pc) := by
  have e : decode cc pc = Except.bind ((Decoder.instr pc) cc pc) (fun q => .ok (q.1, q.2 - pc)) := rfl
  rw [e, h]
  rfl
theorem dq_op {cc : ByteArray} {pc b k : Nat} {i : Instr} (hb : dq_b cc pc b) (hk : (dq_K pc).1 b cc (pc + 1) = .ok (i, pc + k)) (hl : ev_len i = k) : decode cc pc = .ok (i, ev_len i) := by
  have e := dq_dec (cc := cc) (pc := pc) (i := i) (n := pc + k) (by rw [(dq_K pc).2, dq_bind _ _ (dq_rd hb)]; exact hk)
  rw [e, hl, Nat.add_sub_cancel_left]
/-- the bytes of a list -/
theorem dq_tl : ∀ (L : List UInt8) (n : Nat) {x : UInt8} {t : List UInt8}, L.drop n = x :: t → L.drop (n + 1) = t
  | [], n, x, t, h => by rw [List.drop_nil] at h; cases h
  | a :: L, 0, x, t, h => by cases h; rfl
  | a :: L, n + 1, x, t, h => dq_tl L n h
theorem dq_at : ∀ (L : List UInt8) (n : Nat) {x : UInt8} {t : List UInt8}, L.drop n = x :: t → L[n]? = some x
  | [], n, x, t, h => by rw [List.drop_nil] at h; cases h
  | a :: L, 0, x, t, h => by cases h; rfl
  | a :: L, n + 1, x, t, h => dq_at L n h
theorem dq_b_of {cc : ByteArray} {pc : Nat} {x : UInt8} {t : List UInt8} (h : cc.data.toList.drop pc = x :: t) : dq_b cc pc x.toNat := by
  obtain ⟨h2, h3⟩ := List.getElem?_eq_some_iff.mp (dq_at _ _ h)
  have h4 : pc < cc.size := by
    show pc < cc.data.size
    rw [← Array.length_toList]
    exact h2
  refine ⟨h4, ?_⟩
  have e : (cc[pc]'h4) = x := by
    rw [← h3]
    rfl
  rw [e]
def dq_1 (l : List UInt8) (b : Nat) : Bool := match l with
  | x :: _ => Nat.beq x.toNat b
  | [] => false
def dq_2 (l : List UInt8) (b c : Nat) : Bool := match l with
  | x :: y :: _ => Nat.beq x.toNat b && Nat.beq y.toNat c
  | _ => false
def dq_2s (l : List UInt8) (b : Nat) (c : Int) : Bool := match l with
  | x :: y :: _ => Nat.beq x.toNat b && decide (Reader.signed 8 y.toNat = c)
  | _ => false
def dq_3 (l : List UInt8) (b c : Nat) : Bool := match l with
  | x :: y :: z :: _ => Nat.beq x.toNat b && Nat.beq (y.toNat * 256 + z.toNat) c
  | _ => false
def dq_3s (l : List UInt8) (b : Nat) (c : Int) : Bool := match l with
  | x :: y :: z :: _ => Nat.beq x.toNat b && decide (Reader.signed 16 (y.toNat * 256 + z.toNat) = c)
  | _ => false
def dq_3i (l : List UInt8) (b c : Nat) (d : Int) : Bool := match l with
  | x :: y :: z :: _ => Nat.beq x.toNat b && (Nat.beq y.toNat c && decide (Reader.signed 8 z.toNat = d))
  | _ => false
section DQ
variable {cc : ByteArray} {pc : Nat} {l : List UInt8}
theorem dq_1_ok (hl : cc.data.toList.drop pc = l) {b : Nat} (h : dq_1 l b = true) {i : Instr} (hk : ∀ p q c, (dq_K p).1 b c q = .ok (i, q)) (h1 : ev_len i = 1) : decode cc pc = .ok (i, ev_len i) := by
  match l, hl, h with
  | x :: t, hl, h =>
    have hb := dq_b_of hl
    rw [Nat.eq_of_beq_eq_true h] at hb
    exact dq_op hb (hk pc (pc + 1) cc) h1
theorem dq_2_ok (hl : cc.data.toList.drop pc = l) {b c : Nat} (h : dq_2 l b c = true) {f : Nat → Instr} (hk : ∀ p, (dq_K p).1 b = ((Reader.u1 : Decoder Nat) >>= fun x => pure (f x))) (h1 : ∀ x, ev_len (f x) = 2) : decode cc pc = .ok (f c, ev_len (f c)) := by
  match l, hl, h with
  | x :: y :: t, hl, h =>
    have h : (Nat.beq x.toNat b && Nat.beq y.toNat c) = true := h
    rw [Bool.and_eq_true] at h
    have hb := dq_b_of hl
    have hc := dq_b_of (dq_tl _ _ hl)
    rw [Nat.eq_of_beq_eq_true h.1] at hb
    rw [Nat.eq_of_beq_eq_true h.2] at hc
    refine dq_op hb ?_ (h1 c)
    rw [hk]
    exact dq_bind _ _ (dq_rd hc)
theorem dq_2s_ok (hl : cc.data.toList.drop pc = l) {b : Nat} {c : Int} (h : dq_2s l b c = true) {f : Int → Instr} (hk : ∀ p, (dq_K p).1 b = ((Reader.s1 : Decoder Int) >>= fun x => pure (f x))) (h1 : ∀ x, ev_len (f x) = 2) : decode cc pc = .ok (f c, ev_len (f c)) := by
  match l, hl, h with
  | x :: y :: t, hl, h =>
    have h : (Nat.beq x.toNat b && decide (Reader.signed 8 y.toNat = c)) = true := h
    rw [Bool.and_eq_true] at h
    have hb := dq_b_of hl
    have hc := dq_b_of (dq_tl _ _ hl)
    rw [Nat.eq_of_beq_eq_true h.1] at hb
    refine dq_op hb ?_ (h1 c)
    rw [hk, ← of_decide_eq_true h.2]
    exact dq_bind _ _ (dq_map (Reader.signed 8) _ (dq_rd hc))
theorem dq_3_ok (hl : cc.data.toList.drop pc = l) {b c : Nat} (h : dq_3 l b c = true) {f : Nat → Instr} (hk : ∀ p, (dq_K p).1 b = ((Reader.u2 : Decoder Nat) >>= fun x => pure (f x))) (h1 : ∀ x, ev_len (f x) = 3) : decode cc pc = .ok (f c, ev_len (f c)) := by
  match l, hl, h with
  | x :: y :: z :: t, hl, h =>
    have h : (Nat.beq x.toNat b && Nat.beq (y.toNat * 256 + z.toNat) c) = true := h
    rw [Bool.and_eq_true] at h
    have hb := dq_b_of hl
    have h2 := dq_tl _ _ hl
    have hy := dq_b_of h2
    have hz := dq_b_of (dq_tl _ _ h2)
    rw [Nat.eq_of_beq_eq_true h.1] at hb
    refine dq_op hb ?_ (h1 c)
    rw [hk, ← Nat.eq_of_beq_eq_true h.2]
    exact dq_bind _ _ (dq_rd2 hy hz)
theorem dq_3s_ok (hl : cc.data.toList.drop pc = l) {b : Nat} {c : Int} (h : dq_3s l b c = true) {f : Int → Instr} (hk : ∀ p, (dq_K p).1 b = ((Reader.s2 : Decoder Int) >>= fun x => pure (f x))) (h1 : ∀ x, ev_len (f x) = 3) : decode cc pc = .ok (f c, ev_len (f c)) := by
  match l, hl, h with
  | x :: y :: z :: t, hl, h =>
    have h : (Nat.beq x.toNat b && decide (Reader.signed 16 (y.toNat * 256 + z.toNat) = c)) = true := h
    rw [Bool.and_eq_true] at h
    have hb := dq_b_of hl
    have h2 := dq_tl _ _ hl
    have hy := dq_b_of h2
    have hz := dq_b_of (dq_tl _ _ h2)
    rw [Nat.eq_of_beq_eq_true h.1] at hb
    refine dq_op hb ?_ (h1 c)
    rw [hk, ← of_decide_eq_true h.2]
    exact dq_bind _ _ (dq_map (Reader.signed 16) _ (dq_rd2 hy hz))
theorem dq_3i_ok (hl : cc.data.toList.drop pc = l) {c : Nat} {d : Int} (h : dq_3i l 132 c d = true) : decode cc pc = .ok (.iinc c d, ev_len (.iinc c d)) := by
  match l, hl, h with
  | x :: y :: z :: t, hl, h =>
    have h : (Nat.beq x.toNat 132 && (Nat.beq y.toNat c && decide (Reader.signed 8 z.toNat = d))) = true := h
    rw [Bool.and_eq_true, Bool.and_eq_true] at h
    have hb := dq_b_of hl
    have h2 := dq_tl _ _ hl
    have hy := dq_b_of h2
    have hz := dq_b_of (dq_tl _ _ h2)
    rw [Nat.eq_of_beq_eq_true h.1] at hb
    rw [Nat.eq_of_beq_eq_true h.2.1] at hy
    refine dq_op (k := 3) hb ?_ rfl
    have e : (dq_K pc).1 132 = ((Reader.u1 : Decoder Nat) >>= fun x => (Reader.s1 : Decoder Int) >>= fun y => pure (Instr.iinc x y)) := rfl
    rw [e, dq_bind _ _ (dq_rd hy), ← of_decide_eq_true h.2.2]
    exact dq_bind _ _ (dq_map (Reader.signed 8) _ (dq_rd hz))
def dq_cn (c : Jvm.ClassFile.Cond) : Nat := match c with
  | .eq => 0
  | .ne => 1
  | .lt => 2
  | .ge => 3
  | .gt => 4
  | .le => 5
def dq_row (l : List UInt8) (i : Instr) : Bool := match i with
  | .aconst_null => dq_1 l 1
  | .iaload => dq_1 l 46
  | .laload => dq_1 l 47
  | .aaload => dq_1 l 50
  | .baload => dq_1 l 51
  | .caload => dq_1 l 52
  | .iastore => dq_1 l 79
  | .lastore => dq_1 l 80
  | .aastore => dq_1 l 83
  | .bastore => dq_1 l 84
  | .castore => dq_1 l 85
  | .pop => dq_1 l 87
  | .pop2 => dq_1 l 88
  | .dup => dq_1 l 89
  | .dup_x1 => dq_1 l 90
  | .dup2 => dq_1 l 92
  | .swap => dq_1 l 95
  | .iadd => dq_1 l 96
  | .ladd => dq_1 l 97
  | .isub => dq_1 l 100
  | .lsub => dq_1 l 101
  | .imul => dq_1 l 104
  | .lmul => dq_1 l 105
  | .idiv => dq_1 l 108
  | .ldiv => dq_1 l 109
  | .irem => dq_1 l 112
  | .lrem => dq_1 l 113
  | .ineg => dq_1 l 116
  | .lneg => dq_1 l 117
  | .ishl => dq_1 l 120
  | .lshl => dq_1 l 121
  | .ishr => dq_1 l 122
  | .lshr => dq_1 l 123
  | .iushr => dq_1 l 124
  | .lushr => dq_1 l 125
  | .iand => dq_1 l 126
  | .land => dq_1 l 127
  | .ior => dq_1 l 128
  | .lor => dq_1 l 129
  | .ixor => dq_1 l 130
  | .lxor => dq_1 l 131
  | .i2l => dq_1 l 133
  | .l2i => dq_1 l 136
  | .i2b => dq_1 l 145
  | .i2c => dq_1 l 146
  | .i2s => dq_1 l 147
  | .lcmp => dq_1 l 148
  | .ireturn => dq_1 l 172
  | .lreturn => dq_1 l 173
  | .areturn => dq_1 l 176
  | .return_ => dq_1 l 177
  | .arraylength => dq_1 l 190
  | .iconst n => decide (-1 ≤ n ∧ n ≤ 5) && dq_1 l (n + 3).toNat
  | .lconst n => dq_1 l (9 + n.val)
  | .iload_n n => dq_1 l (26 + n.val)
  | .lload_n n => dq_1 l (30 + n.val)
  | .aload_n n => dq_1 l (42 + n.val)
  | .istore_n n => dq_1 l (59 + n.val)
  | .lstore_n n => dq_1 l (63 + n.val)
  | .astore_n n => dq_1 l (75 + n.val)
  | .bipush n => dq_2s l 16 n
  | .sipush n => dq_3s l 17 n
  | .ldc_w n => dq_3 l 19 n
  | .ldc2_w n => dq_3 l 20 n
  | .iload n => dq_2 l 21 n
  | .lload n => dq_2 l 22 n
  | .aload n => dq_2 l 25 n
  | .istore n => dq_2 l 54 n
  | .lstore n => dq_2 l 55 n
  | .astore n => dq_2 l 58 n
  | .iinc n d => dq_3i l 132 n d
  | .ifCond c o => dq_3s l (153 + dq_cn c) o
  | .if_icmp c o => dq_3s l (159 + dq_cn c) o
  | .goto o => dq_3s l 167 o
  | .getfield n => dq_3 l 180 n
  | .putfield n => dq_3 l 181 n
  | .invokevirtual n => dq_3 l 182 n
  | .invokespecial n => dq_3 l 183 n
  | .invokestatic n => dq_3 l 184 n
  | .new n => dq_3 l 187 n
  | _ => false
theorem dq_iconst (hl : cc.data.toList.drop pc = l) {n : Int} (h : (decide (-1 ≤ n ∧ n ≤ 5) && dq_1 l (n + 3).toNat) = true) : decode cc pc = .ok (.iconst n, ev_len (.iconst n)) := by
  rw [Bool.and_eq_true] at h
  have h1 := of_decide_eq_true h.1
  have h2 := h.2
  have : n = -1 ∨ n = 0 ∨ n = 1 ∨ n = 2 ∨ n = 3 ∨ n = 4 ∨ n = 5 := by omega
  rcases this with rfl | rfl | rfl | rfl | rfl | rfl | rfl
  · exact dq_1_ok (b := 2) hl h2 (fun _ _ _ => rfl) rfl
  · exact dq_1_ok (b := 3) hl h2 (fun _ _ _ => rfl) rfl
  · exact dq_1_ok (b := 4) hl h2 (fun _ _ _ => rfl) rfl
  · exact dq_1_ok (b := 5) hl h2 (fun _ _ _ => rfl) rfl
  · exact dq_1_ok (b := 6) hl h2 (fun _ _ _ => rfl) rfl
  · exact dq_1_ok (b := 7) hl h2 (fun _ _ _ => rfl) rfl
  · exact dq_1_ok (b := 8) hl h2 (fun _ _ _ => rfl) rfl
theorem dq_iload_n (hl : cc.data.toList.drop pc = l) : ∀ n : Fin 4, dq_1 l (26 + n.val) = true → decode cc pc = .ok (.iload_n n, ev_len (.iload_n n))
  | ⟨0, _⟩, h => dq_1_ok (b := 26) hl h (fun _ _ _ => rfl) rfl
  | ⟨1, _⟩, h => dq_1_ok (b := 27) hl h (fun _ _ _ => rfl) rfl
  | ⟨2, _⟩, h => dq_1_ok (b := 28) hl h (fun _ _ _ => rfl) rfl
  | ⟨3, _⟩, h => dq_1_ok (b := 29) hl h (fun _ _ _ => rfl) rfl
theorem dq_lload_n (hl : cc.data.toList.drop pc = l) : ∀ n : Fin 4, dq_1 l (30 + n.val) = true → decode cc pc = .ok (.lload_n n, ev_len (.lload_n n))
  | ⟨0, _⟩, h => dq_1_ok (b := 30) hl h (fun _ _ _ => rfl) rfl
  | ⟨1, _⟩, h => dq_1_ok (b := 31) hl h (fun _ _ _ => rfl) rfl
  | ⟨2, _⟩, h => dq_1_ok (b := 32) hl h (fun _ _ _ => rfl) rfl
  | ⟨3, _⟩, h => dq_1_ok (b := 33) hl h (fun _ _ _ => rfl) rfl
theorem dq_aload_n (hl : cc.data.toList.drop pc = l) : ∀ n : Fin 4, dq_1 l (42 + n.val) = true → decode cc pc = .ok (.aload_n n, ev_len (.aload_n n))
  | ⟨0, _⟩, h => dq_1_ok (b := 42) hl h (fun _ _ _ => rfl) rfl
  | ⟨1, _⟩, h => dq_1_ok (b := 43) hl h (fun _ _ _ => rfl) rfl
  | ⟨2, _⟩, h => dq_1_ok (b := 44) hl h (fun _ _ _ => rfl) rfl
  | ⟨3, _⟩, h => dq_1_ok (b := 45) hl h (fun _ _ _ => rfl) rfl
theorem dq_istore_n (hl : cc.data.toList.drop pc = l) : ∀ n : Fin 4, dq_1 l (59 + n.val) = true → decode cc pc = .ok (.istore_n n, ev_len (.istore_n n))
  | ⟨0, _⟩, h => dq_1_ok (b := 59) hl h (fun _ _ _ => rfl) rfl
  | ⟨1, _⟩, h => dq_1_ok (b := 60) hl h (fun _ _ _ => rfl) rfl
  | ⟨2, _⟩, h => dq_1_ok (b := 61) hl h (fun _ _ _ => rfl) rfl
  | ⟨3, _⟩, h => dq_1_ok (b := 62) hl h (fun _ _ _ => rfl) rfl
theorem dq_lstore_n (hl : cc.data.toList.drop pc = l) : ∀ n : Fin 4, dq_1 l (63 + n.val) = true → decode cc pc = .ok (.lstore_n n, ev_len (.lstore_n n))
  | ⟨0, _⟩, h => dq_1_ok (b := 63) hl h (fun _ _ _ => rfl) rfl
  | ⟨1, _⟩, h => dq_1_ok (b := 64) hl h (fun _ _ _ => rfl) rfl
  | ⟨2, _⟩, h => dq_1_ok (b := 65) hl h (fun _ _ _ => rfl) rfl
  | ⟨3, _⟩, h => dq_1_ok (b := 66) hl h (fun _ _ _ => rfl) rfl
theorem dq_astore_n (hl : cc.data.toList.drop pc = l) : ∀ n : Fin 4, dq_1 l (75 + n.val) = true → decode cc pc = .ok (.astore_n n, ev_len (.astore_n n))
  | ⟨0, _⟩, h => dq_1_ok (b := 75) hl h (fun _ _ _ => rfl) rfl
  | ⟨1, _⟩, h => dq_1_ok (b := 76) hl h (fun _ _ _ => rfl) rfl
  | ⟨2, _⟩, h => dq_1_ok (b := 77) hl h (fun _ _ _ => rfl) rfl
  | ⟨3, _⟩, h => dq_1_ok (b := 78) hl h (fun _ _ _ => rfl) rfl
theorem dq_lconst (hl : cc.data.toList.drop pc = l) : ∀ n : Fin 2, dq_1 l (9 + n.val) = true → decode cc pc = .ok (.lconst n, ev_len (.lconst n))
  | ⟨0, _⟩, h => dq_1_ok (b := 9) hl h (fun _ _ _ => rfl) rfl
  | ⟨1, _⟩, h => dq_1_ok (b := 10) hl h (fun _ _ _ => rfl) rfl
theorem dq_ifc (hl : cc.data.toList.drop pc = l) {o : Int} : ∀ c : Jvm.ClassFile.Cond, dq_3s l (153 + dq_cn c) o = true → decode cc pc = .ok (.ifCond c o, ev_len (.ifCond c o))
  | .eq, h => dq_3s_ok (b := 153) hl h (f := Instr.ifCond .eq) (fun _ => rfl) (fun _ => rfl)
  | .ne, h => dq_3s_ok (b := 154) hl h (f := Instr.ifCond .ne) (fun _ => rfl) (fun _ => rfl)
  | .lt, h => dq_3s_ok (b := 155) hl h (f := Instr.ifCond .lt) (fun _ => rfl) (fun _ => rfl)
  | .ge, h => dq_3s_ok (b := 156) hl h (f := Instr.ifCond .ge) (fun _ => rfl) (fun _ => rfl)
  | .gt, h => dq_3s_ok (b := 157) hl h (f := Instr.ifCond .gt) (fun _ => rfl) (fun _ => rfl)
  | .le, h => dq_3s_ok (b := 158) hl h (f := Instr.ifCond .le) (fun _ => rfl) (fun _ => rfl)
theorem dq_ific (hl : cc.data.toList.drop pc = l) {o : Int} : ∀ c : Jvm.ClassFile.Cond, dq_3s l (159 + dq_cn c) o = true → decode cc pc = .ok (.if_icmp c o, ev_len (.if_icmp c o))
  | .eq, h => dq_3s_ok (b := 159) hl h (f := Instr.if_icmp .eq) (fun _ => rfl) (fun _ => rfl)
  | .ne, h => dq_3s_ok (b := 160) hl h (f := Instr.if_icmp .ne) (fun _ => rfl) (fun _ => rfl)
  | .lt, h => dq_3s_ok (b := 161) hl h (f := Instr.if_icmp .lt) (fun _ => rfl) (fun _ => rfl)
  | .ge, h => dq_3s_ok (b := 162) hl h (f := Instr.if_icmp .ge) (fun _ => rfl) (fun _ => rfl)
  | .gt, h => dq_3s_ok (b := 163) hl h (f := Instr.if_icmp .gt) (fun _ => rfl) (fun _ => rfl)
  | .le, h => dq_3s_ok (b := 164) hl h (f := Instr.if_icmp .le) (fun _ => rfl) (fun _ => rfl)
set_option maxHeartbeats 4000000 in
theorem dq_row_ok (hl : cc.data.toList.drop pc = l) (i : Instr) (h : dq_row l i = true) : decode cc pc = .ok (i, ev_len i) := by
  unfold dq_row at h
  split at h
  · exact dq_1_ok (b := 1) hl h (fun _ _ _ => rfl) rfl
  · exact dq_1_ok (b := 46) hl h (fun _ _ _ => rfl) rfl
  · exact dq_1_ok (b := 47) hl h (fun _ _ _ => rfl) rfl
  · exact dq_1_ok (b := 50) hl h (fun _ _ _ => rfl) rfl
  · exact dq_1_ok (b := 51) hl h (fun _ _ _ => rfl) rfl
  · exact dq_1_ok (b := 52) hl h (fun _ _ _ => rfl) rfl
  · exact dq_1_ok (b := 79) hl h (fun _ _ _ => rfl) rfl
  · exact dq_1_ok (b := 80) hl h (fun _ _ _ => rfl) rfl
  · exact dq_1_ok (b := 83) hl h (fun _ _ _ => rfl) rfl
  · exact dq_1_ok (b := 84) hl h (fun _ _ _ => rfl) rfl
  · exact dq_1_ok (b := 85) hl h (fun _ _ _ => rfl) rfl
  · exact dq_1_ok (b := 87) hl h (fun _ _ _ => rfl) rfl
  · exact dq_1_ok (b := 88) hl h (fun _ _ _ => rfl) rfl
  · exact dq_1_ok (b := 89) hl h (fun _ _ _ => rfl) rfl
  · exact dq_1_ok (b := 90) hl h (fun _ _ _ => rfl) rfl
  · exact dq_1_ok (b := 92) hl h (fun _ _ _ => rfl) rfl
  · exact dq_1_ok (b := 95) hl h (fun _ _ _ => rfl) rfl
  · exact dq_1_ok (b := 96) hl h (fun _ _ _ => rfl) rfl
  · exact dq_1_ok (b := 97) hl h (fun _ _ _ => rfl) rfl
  · exact dq_1_ok (b := 100) hl h (fun _ _ _ => rfl) rfl
  · exact dq_1_ok (b := 101) hl h (fun _ _ _ => rfl) rfl
  · exact dq_1_ok (b := 104) hl h (fun _ _ _ => rfl) rfl
  · exact dq_1_ok (b := 105) hl h (fun _ _ _ => rfl) rfl
  · exact dq_1_ok (b := 108) hl h (fun _ _ _ => rfl) rfl
  · exact dq_1_ok (b := 109) hl h (fun _ _ _ => rfl) rfl
  · exact dq_1_ok (b := 112) hl h (fun _ _ _ => rfl) rfl
  · exact dq_1_ok (b := 113) hl h (fun _ _ _ => rfl) rfl
  · exact dq_1_ok (b := 116) hl h (fun _ _ _ => rfl) rfl
  · exact dq_1_ok (b := 117) hl h (fun _ _ _ => rfl) rfl
  · exact dq_1_ok (b := 120) hl h (fun _ _ _ => rfl) rfl
  · exact dq_1_ok (b := 121) hl h (fun _ _ _ => rfl) rfl
  · exact dq_1_ok (b := 122) hl h (fun _ _ _ => rfl) rfl
  · exact dq_1_ok (b := 123) hl h (fun _ _ _ => rfl) rfl
  · exact dq_1_ok (b := 124) hl h (fun _ _ _ => rfl) rfl
  · exact dq_1_ok (b := 125) hl h (fun _ _ _ => rfl) rfl
  · exact dq_1_ok (b := 126) hl h (fun _ _ _ => rfl) rfl
  · exact dq_1_ok (b := 127) hl h (fun _ _ _ => rfl) rfl
  · exact dq_1_ok (b := 128) hl h (fun _ _ _ => rfl) rfl
  · exact dq_1_ok (b := 129) hl h (fun _ _ _ => rfl) rfl
  · exact dq_1_ok (b := 130) hl h (fun _ _ _ => rfl) rfl
  · exact dq_1_ok (b := 131) hl h (fun _ _ _ => rfl) rfl
  · exact dq_1_ok (b := 133) hl h (fun _ _ _ => rfl) rfl
  · exact dq_1_ok (b := 136) hl h (fun _ _ _ => rfl) rfl
  · exact dq_1_ok (b := 145) hl h (fun _ _ _ => rfl) rfl
  · exact dq_1_ok (b := 146) hl h (fun _ _ _ => rfl) rfl
  · exact dq_1_ok (b := 147) hl h (fun _ _ _ => rfl) rfl
  · exact dq_1_ok (b := 148) hl h (fun _ _ _ => rfl) rfl
  · exact dq_1_ok (b := 172) hl h (fun _ _ _ => rfl) rfl
  · exact dq_1_ok (b := 173) hl h (fun _ _ _ => rfl) rfl
  · exact dq_1_ok (b := 176) hl h (fun _ _ _ => rfl) rfl
  · exact dq_1_ok (b := 177) hl h (fun _ _ _ => rfl) rfl
  · exact dq_1_ok (b := 190) hl h (fun _ _ _ => rfl) rfl
  · exact dq_iconst hl h
  · exact dq_lconst hl _ h
  · exact dq_iload_n hl _ h
  · exact dq_lload_n hl _ h
  · exact dq_aload_n hl _ h
  · exact dq_istore_n hl _ h
  · exact dq_lstore_n hl _ h
  · exact dq_astore_n hl _ h
  · exact dq_2s_ok hl h (fun _ => rfl) (fun _ => rfl)
  · exact dq_3s_ok hl h (fun _ => rfl) (fun _ => rfl)
  · exact dq_3_ok hl h (f := Instr.ldc_w) (fun _ => rfl) (fun _ => rfl)
  · exact dq_3_ok hl h (f := Instr.ldc2_w) (fun _ => rfl) (fun _ => rfl)
  · exact dq_2_ok hl h (f := Instr.iload) (fun _ => rfl) (fun _ => rfl)
  · exact dq_2_ok hl h (f := Instr.lload) (fun _ => rfl) (fun _ => rfl)
  · exact dq_2_ok hl h (f := Instr.aload) (fun _ => rfl) (fun _ => rfl)
  · exact dq_2_ok hl h (f := Instr.istore) (fun _ => rfl) (fun _ => rfl)
  · exact dq_2_ok hl h (f := Instr.lstore) (fun _ => rfl) (fun _ => rfl)
  · exact dq_2_ok hl h (f := Instr.astore) (fun _ => rfl) (fun _ => rfl)
  · exact dq_3i_ok hl h
  · exact dq_ifc hl _ h
  · exact dq_ific hl _ h
  · exact dq_3s_ok hl h (f := Instr.goto) (fun _ => rfl) (fun _ => rfl)
  · exact dq_3_ok hl h (f := Instr.getfield) (fun _ => rfl) (fun _ => rfl)
  · exact dq_3_ok hl h (f := Instr.putfield) (fun _ => rfl) (fun _ => rfl)
  · exact dq_3_ok hl h (f := Instr.invokevirtual) (fun _ => rfl) (fun _ => rfl)
  · exact dq_3_ok hl h (f := Instr.invokespecial) (fun _ => rfl) (fun _ => rfl)
  · exact dq_3_ok hl h (f := Instr.invokestatic) (fun _ => rfl) (fun _ => rfl)
  · exact dq_3_ok hl h (f := Instr.new) (fun _ => rfl) (fun _ => rfl)
  · cases h
end DQ
theorem dq_dok {cc : ByteArray} {pc a b p : Nat} {i : Instr} {v : Value} (h : decode cc pc = .ok (i, ev_len i)) : ev_dok cc (pc, i, a, b, p, v) = true := by
  unfold ev_dok
  dsimp only
  split
  · rw [h]
    exact decide_eq_true rfl
  · exact decide_eq_true h
def dq_all (own : String) (cc : ByteArray) : List ev_E → Nat → List UInt8 → Bool
  | [], _, _ => true
  | e :: t, p, l => Nat.ble p e.1 && (match l.drop (e.1 - p) with
    | [] => false
    | b :: bs => (dq_row (b :: bs) e.2.1 || ev_dok cc e) && (ev_eok1 own e && dq_all own cc t e.1 (b :: bs)))
theorem dq_all_ok {own : String} {cc : ByteArray} : ∀ (es : List ev_E) (p : Nat) (l : List UInt8), cc.data.toList.drop p = l → dq_all own cc es p l = true → ∀ e ∈ es, ev_eok own cc e = true
  | [], _, _, _, _, e, he => absurd he (List.not_mem_nil)
  | (pc, i, a, b, q, v) :: t, p, l, hl, h, e, he => by
    unfold dq_all at h
    rw [Bool.and_eq_true] at h
    obtain ⟨h1, h2⟩ := h
    have h1 : p ≤ pc := Nat.le_of_ble_eq_true h1
    have hd : cc.data.toList.drop pc = l.drop (pc - p) := by
      rw [← hl, List.drop_drop]
      congr 1
      omega
    have h2 : (match l.drop (pc - p) with
      | [] => false
      | b9 :: bs => (dq_row (b9 :: bs) i || ev_dok cc (pc, i, a, b, q, v)) && (ev_eok1 own (pc, i, a, b, q, v) && dq_all own cc t pc (b9 :: bs))) = true := h2
    cases hx : l.drop (pc - p) with
    | nil => rw [hx] at h2; cases h2
    | cons b9 bs =>
      rw [hx] at h2 hd
      have h2 : ((dq_row (b9 :: bs) i || ev_dok cc (pc, i, a, b, q, v)) && (ev_eok1 own (pc, i, a, b, q, v) && dq_all own cc t pc (b9 :: bs))) = true := h2
      rw [Bool.and_eq_true, Bool.and_eq_true, Bool.or_eq_true] at h2
      obtain ⟨h3, h4, h5⟩ := h2
      rcases List.mem_cons.mp he with rfl | he
      · show (ev_dok cc (pc, i, a, b, q, v) && ev_eok1 own (pc, i, a, b, q, v)) = true
        rw [Bool.and_eq_true]
        refine ⟨?_, h4⟩
        rcases h3 with h3 | h3
        · exact dq_dok (dq_row_ok hd i h3)
        · exact h3
      · exact dq_all_ok t pc (b9 :: bs) hd h5 e he
def dq_tk (own : String) (cc : ByteArray) (t : ev_T) : Bool := dq_all own cc t.flatten 0 cc.data.toList
theorem dq_tk_ok {own : String} {cc : ByteArray} {t : ev_T} (h : dq_tk own cc t = true) : ev_tok own cc t = true :=
  List.all_eq_true.mpr fun _ hr => List.all_eq_true.mpr fun e he => dq_all_ok _ 0 _ rfl h e (List.mem_flatten.mpr ⟨_, hr, he⟩)
theorem dq_rw {r : ev_R} (h1 : ev_rwok r = true) (h2 : dq_tk r.2.1.cls r.2.2.1 r.1.2.2.2.2.2.2.2.2.2 = true) : ev_rowok r = true := by
  unfold ev_rowok
  rw [h1, dq_tk_ok h2]
  rfl
