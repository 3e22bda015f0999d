/-! our machine, a step at a time -/
theorem ev_l_s {i : Instr} {mx : Nat} {L : ev_L} {st : List Value} {x : ev_L × List Value} (h : ev_l i mx L st = some x) (v : Value) (st' : List Value) : ev_s i v st' = none := by
  unfold ev_l at h
  split at h <;> first | rfl | cases h
theorem ev_h_s {sc : Option (List Int32)} {i : Instr} {ini a b : Nat} {st : List Value} {hp : ev_H} {x : List Value × ev_H} (h : ev_h sc i ini a b st hp = some x) (v : Value) (st' : List Value) (mx : Nat) (L : ev_L) : ev_s i v st' = none ∧ ev_l i mx L st' = none := by
  unfold ev_h at h
  split at h <;> first | exact ⟨rfl, rfl⟩ | cases h
theorem ev_j_s {i : Instr} {pc a : Nat} {st : List Value} {x : Nat × List Value} (h : ev_j i pc a st = some x) (v : Value) (st' : List Value) (mx : Nat) (L : ev_L) (sc : Option (List Int32)) (ini a' b : Nat) (hp : ev_H) : ev_s i v st' = none ∧ ev_l i mx L st' = none ∧ ev_h sc i ini a' b st' hp = none := by
  unfold ev_j at h
  split at h <;> first | exact ⟨rfl, rfl, rfl⟩ | cases h
theorem ev_r_s {rt : Nat} {i : Instr} {st : List Value} {x : Option Value} (h : ev_rok rt i st = some x) (v : Value) (st' : List Value) (mx : Nat) (L : ev_L) (sc : Option (List Int32)) (ini a' b pc : Nat) (hp : ev_H) : ev_s i v st' = none ∧ ev_l i mx L st' = none ∧ ev_h sc i ini a' b st' hp = none ∧ ev_j i pc a' st' = none := by
  unfold ev_rok at h
  split at h <;> first | exact ⟨rfl, rfl, rfl, rfl⟩ | cases h
theorem ev_k_s {i : Instr} {bb n : Nat} (h : ev_k i bb = some n) (v : Value) (st' : List Value) (mx : Nat) (L : ev_L) (sc : Option (List Int32)) (ini a' b pc rt : Nat) (hp : ev_H) : ev_s i v st' = none ∧ ev_l i mx L st' = none ∧ ev_h sc i ini a' b st' hp = none ∧ ev_j i pc a' st' = none ∧ ev_rok rt i st' = none := by
  unfold ev_k at h
  split at h <;> first | exact ⟨rfl, rfl, rfl, rfl, rfl⟩ | cases h
theorem ev_n_s {i : Instr} {a : Nat} {st : List Value} {hp : ev_H} {x : List Value × ev_H × Nat × Nat} (h : ev_n i a st hp = some x) (v : Value) (st' : List Value) (mx : Nat) (L : ev_L) (sc : Option (List Int32)) (ini a' b pc rt : Nat) (hp' : ev_H) : ev_s i v st' = none ∧ ev_l i mx L st' = none ∧ ev_h sc i ini a' b st' hp' = none ∧ ev_j i pc a' st' = none ∧ ev_rok rt i st' = none ∧ ev_k i b = none := by
  unfold ev_n at h
  split at h <;> first | exact ⟨rfl, rfl, rfl, rfl, rfl, rfl⟩ | cases h
section XST
variable {sc : Option (List Int32)} {rt ini mx na rc fr lo mc ms : Nat} {t : ev_T} {pc : Nat} {Lc : ev_L} {stc : List Value} {hc : ev_H} {kc ks : Nat} {Q : Option Value → ev_H → Prop}
variable {pp0 a b pp : Nat} {i : Instr} {v : Value}
theorem x_W_s (hf : ev_f t pc = some (pp0, i, a, b, pp, v)) {st' : List Value} (hs : ev_s i v stc = some st') (h : x_W sc (rt, ini, mx, na, rc, fr, lo, mc, ms, t) (pc + ev_len i) Lc st' hc kc ks Q) : x_W sc (rt, ini, mx, na, rc, fr, lo, mc, ms, t) pc Lc stc hc kc ks Q := by
  obtain ⟨n, r, h9, e, q⟩ := h
  refine ⟨n + 1, r, h9, ?_, q⟩
  unfold ev
  try dsimp only
  rw [hf]
  try dsimp only
  rw [hs]
  exact e
theorem x_W_l (hf : ev_f t pc = some (pp0, i, a, b, pp, v)) {L' : ev_L} {st' : List Value} (hs : ev_l i mx Lc stc = some (L', st')) (h : x_W sc (rt, ini, mx, na, rc, fr, lo, mc, ms, t) (pc + ev_len i) L' st' hc kc ks Q) : x_W sc (rt, ini, mx, na, rc, fr, lo, mc, ms, t) pc Lc stc hc kc ks Q := by
  obtain ⟨n, r, h9, e, q⟩ := h
  refine ⟨n + 1, r, h9, ?_, q⟩
  unfold ev
  try dsimp only
  rw [hf]
  try dsimp only
  rw [ev_l_s hs, hs]
  exact e
theorem x_W_h (hf : ev_f t pc = some (pp0, i, a, b, pp, v)) {st' : List Value} {hc' : ev_H} (hs : ev_h sc i ini a b stc hc = some (st', hc')) (h : x_W sc (rt, ini, mx, na, rc, fr, lo, mc, ms, t) (pc + ev_len i) Lc st' hc' kc ks Q) : x_W sc (rt, ini, mx, na, rc, fr, lo, mc, ms, t) pc Lc stc hc kc ks Q := by
  obtain ⟨n, r, h9, e, q⟩ := h
  refine ⟨n + 1, r, h9, ?_, q⟩
  obtain ⟨z1, z2⟩ := ev_h_s hs v stc mx Lc
  unfold ev
  try dsimp only
  rw [hf]
  try dsimp only
  rw [z1, z2, hs]
  exact e
theorem x_W_j (hf : ev_f t pc = some (pp0, i, a, b, pp, v)) {st' : List Value} {pc' : Nat} (hs : ev_j i pc a stc = some (pc', st')) (h : x_W sc (rt, ini, mx, na, rc, fr, lo, mc, ms, t) pc' Lc st' hc kc ks Q) : x_W sc (rt, ini, mx, na, rc, fr, lo, mc, ms, t) pc Lc stc hc kc ks Q := by
  obtain ⟨n, r, h9, e, q⟩ := h
  refine ⟨n + 1, r, h9, ?_, q⟩
  obtain ⟨z1, z2, z3⟩ := ev_j_s hs v stc mx Lc sc ini a b hc
  unfold ev
  try dsimp only
  rw [hf]
  try dsimp only
  rw [z1, z2, z3, hs]
  exact e
theorem x_W_r (hf : ev_f t pc = some (pp0, i, a, b, pp, v)) {r : Option Value} (hs : ev_rok rt i stc = some r) (h : Q r hc) : x_W sc (rt, ini, mx, na, rc, fr, lo, mc, ms, t) pc Lc stc hc kc ks Q := by
  refine ⟨1, r, hc, ?_, h⟩
  obtain ⟨z1, z2, z3, z4⟩ := ev_r_s hs v stc mx Lc sc ini a b pc hc
  unfold ev
  try dsimp only
  rw [hf]
  try dsimp only
  rw [z1, z2, z3, z4, hs]
theorem x_W_n (hf : ev_f t pc = some (pp0, i, a, b, pp, v)) {st' : List Value} {hc' : ev_H} {dc ds : Nat} (hs : ev_n i a stc hc = some (st', hc', dc, ds)) (h1 : kc + dc ≤ mc) (h2 : ks + ds ≤ ms) (h : x_W sc (rt, ini, mx, na, rc, fr, lo, mc, ms, t) (pc + ev_len i) Lc st' hc' (kc + dc) (ks + ds) Q) : x_W sc (rt, ini, mx, na, rc, fr, lo, mc, ms, t) pc Lc stc hc kc ks Q := by
  obtain ⟨n, r, h9, e, q⟩ := h
  refine ⟨n + 1, r, h9, ?_, q⟩
  obtain ⟨z1, z2, z3, z4, z5, z6⟩ := ev_n_s hs v stc mx Lc sc ini a b pc rt hc
  unfold ev
  try dsimp only
  rw [hf]
  try dsimp only
  rw [z1, z2, z3, z4, z5, z6, hs]
  try dsimp only
  rw [Nat.ble_eq_true_of_le h1, Nat.ble_eq_true_of_le h2]
  exact e
theorem x_W_o (hf : ev_f t pc = some (pp0, i, a, b, pp, v)) (hk : ev_k i b = some 1) {q : Nat} {r : List Value} (hst : stc = .ref q :: r) (h1 : 1 ≤ fr) (h2 : ev_sum r + 12 ≤ lo) (h : x_W sc (rt, ini, mx, na, rc, fr, lo, mc, ms, t) (pc + 3) Lc r hc kc ks Q) : x_W sc (rt, ini, mx, na, rc, fr, lo, mc, ms, t) pc Lc stc hc kc ks Q := by
  obtain ⟨n, r9, h9, e, q9⟩ := h
  refine ⟨n + 1, r9, h9, ?_, q9⟩
  obtain ⟨z1, z2, z3, z4, z5⟩ := ev_k_s hk v stc mx Lc sc ini a b pc rt hc
  unfold ev
  try dsimp only
  rw [hf]
  try dsimp only
  rw [z1, z2, z3, z4, z5, hk, hst]
  try dsimp only
  rw [Nat.ble_eq_true_of_le h1, Nat.ble_eq_true_of_le h2]
  exact e
theorem x_W_c (hf : ev_f t pc = some (pp0, i, a, b, pp, v)) (hk : ev_k i b = some 2) {st' : List Value} {hc' : ev_H} (hs : ev_cp stc hc = some (st', hc')) (h1 : 1 ≤ fr) (h2 : ev_sum st' + 18 ≤ lo) (h : x_W sc (rt, ini, mx, na, rc, fr, lo, mc, ms, t) (pc + 3) Lc st' hc' kc ks Q) : x_W sc (rt, ini, mx, na, rc, fr, lo, mc, ms, t) pc Lc stc hc kc ks Q := by
  obtain ⟨n, r9, h9, e, q9⟩ := h
  refine ⟨n + 1, r9, h9, ?_, q9⟩
  obtain ⟨z1, z2, z3, z4, z5⟩ := ev_k_s hk v stc mx Lc sc ini a b pc rt hc
  unfold ev
  try dsimp only
  rw [hf]
  try dsimp only
  rw [z1, z2, z3, z4, z5, hk]
  try dsimp only
  rw [hs]
  try dsimp only
  rw [Nat.ble_eq_true_of_le h1, Nat.ble_eq_true_of_le h2]
  exact e
end XST
set_option maxHeartbeats 4000000 in
theorem ev_mono1 : ∀ (n : Nat) (sc : Option (List Int32)) (I : ev_I) (pc : Nat) (L : ev_L) (st : List Value) (hp : ev_H) (kc ks : Nat) (r : Option Value × ev_H), ev n sc I pc L st hp kc ks = some r → ev (n + 1) sc I pc L st hp kc ks = some r := by
  intro n
  induction n with
  | zero => intro sc I pc L st hp kc ks r h; cases h
  | succ n IH =>
    intro sc I pc L st hp kc ks r h
    obtain ⟨rt, ini, mx, na, rc, fr, lo, mc, ms, t⟩ := I
    unfold ev at h ⊢
    try dsimp only at h ⊢
    cases e1 : ev_f t pc with
    | none => rw [e1] at h; cases h
    | some x =>
      obtain ⟨pp0, i, a, b, pp, v⟩ := x
      rw [e1] at h
      try dsimp only at h ⊢
      cases e2 : ev_s i v st with
      | some st' =>
        rw [e2] at h
        exact IH _ _ _ _ _ _ _ _ _ h
      | none =>
        rw [e2] at h
        try dsimp only at h ⊢
        cases e3 : ev_l i mx L st with
        | some x =>
          rw [e3] at h
          exact IH _ _ _ _ _ _ _ _ _ h
        | none =>
          rw [e3] at h
          try dsimp only at h ⊢
          cases e4 : ev_h sc i ini a b st hp with
          | some x =>
            rw [e4] at h
            exact IH _ _ _ _ _ _ _ _ _ h
          | none =>
            rw [e4] at h
            try dsimp only at h ⊢
            cases e5 : ev_j i pc a st with
            | some x =>
              rw [e5] at h
              exact IH _ _ _ _ _ _ _ _ _ h
            | none =>
              rw [e5] at h
              try dsimp only at h ⊢
              cases e6 : ev_rok rt i st with
              | some x =>
                rw [e6] at h
                exact h
              | none =>
                rw [e6] at h
                try dsimp only at h ⊢
                split at h
                · split at h
                  · cases h
                  · rename_i e8
                    split at h
                    · cases h
                    · rename_i e9
                      split at h
                      · cases h
                      · rename_i e10
                        split at h
                        · cases h
                        · rename_i e11
                          have e12 := IH _ _ _ _ _ _ _ _ _ e11
                          have e13 := IH _ _ _ _ _ _ _ _ _ h
                          rw [e12]
                          exact e13
                        · rename_i e11
                          have e12 := IH _ _ _ _ _ _ _ _ _ e11
                          have e13 := IH _ _ _ _ _ _ _ _ _ h
                          rw [e12]
                          exact e13
                · cases st with
                  | nil => cases h
                  | cons v0 r => cases v0 with
                    | ref q =>
                      try dsimp only at h ⊢
                      split at h
                      · rename_i hc
                        exact IH _ _ _ _ _ _ _ _ _ h
                      · cases h
                    | _ => cases h
                · split at h
                  · rename_i e8
                    split at h
                    · rename_i e9
                      try dsimp only
                      exact IH _ _ _ _ _ _ _ _ _ h
                    · cases h
                  · cases h
                · split at h
                  · rename_i e8
                    split at h
                    · rename_i e9
                      try dsimp only
                      exact IH _ _ _ _ _ _ _ _ _ h
                    · cases h
                  · cases h
theorem ev_mono {n m : Nat} (hnm : n ≤ m) {sc : Option (List Int32)} {I : ev_I} {pc : Nat} {L : ev_L} {st : List Value} {hp : ev_H} {kc ks : Nat} {r : Option Value × ev_H} (h : ev n sc I pc L st hp kc ks = some r) : ev m sc I pc L st hp kc ks = some r := by
  induction hnm with
  | refl => exact h
  | step _ ih => exact ev_mono1 _ _ _ _ _ _ _ _ _ _ ih
section XSK
variable {sc : Option (List Int32)} {rt ini mx na rc fr lo mc ms : Nat} {t : ev_T} {pc : Nat} {Lc : ev_L} {stc : List Value} {hc : ev_H} {kc ks : Nat} {Q : Option Value → ev_H → Prop}
variable {pp0 a b pp : Nat} {i : Instr} {v : Value}
theorem x_W_k (hf : ev_f t pc = some (pp0, i, a, b, pp, v)) (hk : ev_k i b = some 0) {rt' ini' mx' na' rc' fr' lo' mc' ms' : Nat} {t' : ev_T} {q9 : MethodName × ByteArray × Option FieldType × Nat × Nat × Nat × Nat} (hm : ev_ms a = some ((rt', ini', mx', na', rc', fr', lo', mc', ms', t'), q9)) {as r : List Value} (har : ev_ar rc' na' stc hc = some (as, r))
    (hcd : (ev_fit i (rt', ini', mx', na', rc', fr', lo', mc', ms', t') && (Nat.ble (fr' + 1) fr && (Nat.ble (8 + (mx' + 11) + lo') lo && (Nat.ble (ev_sum r) 8 && (Nat.ble (ev_sum as) mx' && (Nat.ble (kc + mc') mc && Nat.ble (ks + ms') ms)))))) = true)
    (h : x_W none (rt', ini', mx', na', rc', fr', lo', mc', ms', t') 0 (lv_args 0 as) [] hc 0 0 (fun rv h' => x_W sc (rt, ini, mx, na, rc, fr, lo, mc, ms, t) (pc + 3) Lc (rv.toList ++ r) h' (kc + mc') (ks + ms') Q)) : x_W sc (rt, ini, mx, na, rc, fr, lo, mc, ms, t) pc Lc stc hc kc ks Q := by
  obtain ⟨n1, rv, h1, e1, n2, r2, h2, e2, q⟩ := h
  have e1 := ev_mono (Nat.le_max_left n1 n2) e1
  have e2 := ev_mono (Nat.le_max_right n1 n2) e2
  refine ⟨max n1 n2 + 1, r2, h2, ?_, q⟩
  obtain ⟨z1, z2, z3, z4, z5⟩ := ev_k_s hk v stc mx Lc sc ini a b pc rt hc
  unfold ev
  try dsimp only
  rw [hf]
  try dsimp only
  rw [z1, z2, z3, z4, z5, hk]
  try dsimp only
  rw [hm]
  try dsimp only
  rw [har]
  try dsimp only
  rw [hcd]
  try dsimp only
  rw [e1]
  cases rv with
  | none => exact e2
  | some w => exact e2
end XSK
