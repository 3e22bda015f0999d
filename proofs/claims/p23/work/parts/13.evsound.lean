/-! OUR MACHINE IS THE MACHINE, in any number of steps -/
theorem ev_s_ts {d lo hi : Int} {o : Array Int} {v : Value} {st st' : List Value} (h : ev_s (.tableswitch d lo hi o) v st = some st') : False := by
  have e : ev_s (.tableswitch d lo hi o) v st = none := rfl
  rw [e] at h
  cases h
theorem ev_l_ts {d lo hi : Int} {o : Array Int} {mx : Nat} {L : ev_L} {st : List Value} {x : ev_L × List Value} (h : ev_l (.tableswitch d lo hi o) mx L st = some x) : False := by
  have e : ev_l (.tableswitch d lo hi o) mx L st = none := rfl
  rw [e] at h
  cases h
theorem ev_h_ts {d lo hi : Int} {o : Array Int} {sc : Option (List Int32)} {ini a b : Nat} {st : List Value} {hp : ev_H} {x : List Value × ev_H} (h : ev_h sc (.tableswitch d lo hi o) ini a b st hp = some x) : False := by
  have e : ev_h sc (.tableswitch d lo hi o) ini a b st hp = none := rfl
  rw [e] at h
  cases h
theorem ev_n_ts {d lo hi : Int} {o : Array Int} {a : Nat} {st : List Value} {hp : ev_H} {x : List Value × ev_H × Nat × Nat} (h : ev_n (.tableswitch d lo hi o) a st hp = some x) : False := by
  have e : ev_n (.tableswitch d lo hi o) a st hp = none := rfl
  rw [e] at h
  cases h
theorem ev_k_ts {d lo hi : Int} {o : Array Int} {bb n : Nat} (h : ev_k (.tableswitch d lo hi o) bb = some n) : False := by
  have e : ev_k (.tableswitch d lo hi o) bb = none := rfl
  rw [e] at h
  cases h
theorem ev_k_len {i : Instr} {bb n : Nat} (h : ev_k i bb = some n) : ev_len i = 3 := by
  unfold ev_k at h
  split at h
  · rfl
  · rfl
  · rfl
  · cases h
theorem ev_cp_ok {st st' : List Value} {hp hp' : ev_H} (h : ev_cp st hp = some (st', hp')) : ∃ (n dp sp : Int32) (q0 q1 : Nat) (xs ys : List Int32), st = .int n :: .int dp :: .ref q1 :: .int sp :: .ref q0 :: st' ∧ hp[q0]? = some (.inl (0, xs)) ∧ hp[q1]? = some (.inl (0, ys)) ∧
    (¬ sp < 0 ∧ ¬ dp < 0 ∧ ¬ n < 0 ∧ sp.toNatClampNeg + n.toNatClampNeg ≤ xs.length ∧ dp.toNatClampNeg + n.toNatClampNeg ≤ ys.length) ∧ hp' = hp.set q1 (.inl (0, ys.take dp.toNatClampNeg ++ ((xs.drop sp.toNatClampNeg).take n.toNatClampNeg ++ ys.drop (dp.toNatClampNeg + n.toNatClampNeg)))) := by
  unfold ev_cp at h
  split at h
  · split at h
    · rename_i h0 h1
      split at h
      · rename_i hc
        cases h
        exact ⟨_, _, _, _, _, _, _, rfl, h0, h1, hc, rfl⟩
      · cases h
    · cases h
  · cases h
set_option maxHeartbeats 8000000 in
theorem ev_sound : ∀ n, ev_Snd n := by
  intro n
  induction n with
  | zero =>
    intro sc rt ini mx na rc fr lo mc ms t pc L st hp kc ks rv hp' h
    cases h
  | succ n IH =>
    intro sc rt ini mx na rc fr lo mc ms t pc L st hp kc ks rv hp' h p l e R s m args below meth c H locs Q cc own D cy b0 b ls hx hb hml hown hts hfr hlo hmc hms hK hP hS hsc hini htk hl hkc hks kk
    unfold ev at h
    dsimp only at h
    split at h
    · cases h
    · rename_i pc9 i a bb pp v hf
      obtain ⟨e0, hdok, heok⟩ := ev_f_ok hf htk
      have e0 : pc9 = pc := e0
      subst e0
      have hdk := ev_dok_ok hdok
      have hd3 : (∀ d lo hi o, i ≠ .tableswitch d lo hi o) → decode cc pc9 = .ok (i, ev_len i) := fun hq => by
        obtain ⟨len, hd, hlen⟩ := hdk
        rcases hlen with rfl | ⟨d, lo9, hi9, o, z⟩
        · exact hd
        · exact absurd z (hq d lo9 hi9 o)
      split at h
      · rename_i st' hs
        have hd := hd3 (fun d lo9 hi9 o z => by subst z; exact ev_s_ts hs)
        refine ev_s_ok hx hb hown hs hd (fun idx x z1 z2 => ?_) (fun idx x z1 z2 => ?_) (IH sc rt ini mx na rc fr lo mc ms t _ L st' hp kc ks rv hp' h p l e R s m args below meth c H locs Q cc own D cy b0 b ls hx hb hml hown hts hfr hlo hmc hms hK hP hS hsc hini htk hl hkc hks kk)
        · subst z1; subst z2
          exact hts _ (ev_in_ok heok)
        · subst z1; subst z2
          exact hts _ (ev_in_ok heok)
      · split at h
        · rename_i L' st' hs
          have hd := hd3 (fun d lo9 hi9 o z => by subst z; exact ev_l_ts hs)
          exact ev_l_ok hx hb hs hd hl (fun ls' hl' => IH sc rt ini mx na rc fr lo mc ms t _ L' st' hp kc ks rv hp' h p l e R s m args below meth c H locs Q cc own D cy b0 b ls' hx hb hml hown hts hfr hlo hmc hms hK hP hS hsc hini htk hl' hkc hks kk)
        · split at h
          · rename_i st' hp1 hs
            have hd := hd3 (fun d lo9 hi9 o z => by subst z; exact ev_h_ts hs)
            refine ev_h_ok (pp := pp) hx hb hown hts hK.1 hP hS hsc hini (fun idx z => ?_) hs hd (fun H1 locs1 hP1 hS1 => IH sc rt ini mx na rc fr lo mc ms t _ L st' hp1 kc ks rv hp' h p l e R s m args below meth c H1 locs1 Q cc own D cy b0 b ls hx hb hml hown hts hfr hlo hmc hms hK hP1 hS1 hsc hini htk hl hkc hks kk)
            rcases z with z | z
            · subst z; exact heok
            · subst z; exact heok
          · split at h
            · rename_i pc' st' hs
              refine ev_j_ok hx hb hs hdk (fun off z => ?_) (IH sc rt ini mx na rc fr lo mc ms t pc' L st' hp kc ks rv hp' h p l e R s m args below meth c H locs Q cc own D cy b0 b ls hx hb hml hown hts hfr hlo hmc hms hK hP hS hsc hini htk hl hkc hks kk)
              rcases z with z | ⟨q, z⟩ | ⟨q, z⟩
              · subst z; exact of_decide_eq_true heok
              · subst z; exact of_decide_eq_true heok
              · subst z; exact of_decide_eq_true heok
            · split at h
              · rename_i r hs
                cases h
                obtain ⟨z1, z2, z3⟩ := ev_rok_st hs
                have hd := hd3 z3
                rw [z2] at hd
                subst z1
                exact W.widen hkc hks (kk _ i H locs ls hP hS hd hs)
              · split at h
                · rename_i hk
                  have hd := hd3 (fun d lo9 hi9 o z => by subst z; exact ev_k_ts hk)
                  rw [ev_k_len hk] at hd
                  split at h
                  · cases h
                  · rename_i rt' ini' mx' na' rc' fr' lo' mc' ms' t' rest9 hms9
                    obtain ⟨y, cc', ret, p1, p2, p3, p4⟩ := rest9
                    split at h
                    · cases h
                    · rename_i as r har
                      split at h
                      · cases h
                      · rename_i hc
                        simp only [Bool.and_eq_true] at hc
                        obtain ⟨c1, c2, c3, c4, c5, c6, c7⟩ := hc
                        have c2 := Nat.le_of_ble_eq_true c2
                        have c3 := Nat.le_of_ble_eq_true c3
                        have c4 := Nat.le_of_ble_eq_true c4
                        have c5 := Nat.le_of_ble_eq_true c5
                        have c6 := Nat.le_of_ble_eq_true c6
                        have c7 := Nat.le_of_ble_eq_true c7
                        split at h
                        · cases h
                        · rename_i hp1 hev
                          exact ev_call IH hx hb hown hts hml hl.1 hK hP hS hk heok hd hms9 har c1 (by rw [hfr]; exact c2) (by rw [hlo]; exact c3) c4 c5 (by rw [hmc]; exact c6) (by rw [hms]; exact c7) hev (fun H1 locs1 hP1 hS1 => IH sc rt ini mx na rc fr lo mc ms t _ L r hp1 _ _ rv hp' h p l e R s m args below meth c H1 locs1 Q cc own D cy b0 b ls hx hb hml hown hts hfr hlo hmc hms hK hP1 hS1 hsc hini htk hl c6 c7 kk)
                        · rename_i w hp1 hev
                          exact ev_call IH hx hb hown hts hml hl.1 hK hP hS hk heok hd hms9 har c1 (by rw [hfr]; exact c2) (by rw [hlo]; exact c3) c4 c5 (by rw [hmc]; exact c6) (by rw [hms]; exact c7) hev (fun H1 locs1 hP1 hS1 => IH sc rt ini mx na rc fr lo mc ms t _ L (w :: r) hp1 _ _ rv hp' h p l e R s m args below meth c H1 locs1 Q cc own D cy b0 b ls hx hb hml hown hts hfr hlo hmc hms hK hP1 hS1 hsc hini htk hl c6 c7 kk)
                · rename_i hk
                  have hd := hd3 (fun d lo9 hi9 o z => by subst z; exact ev_k_ts hk)
                  rw [ev_k_len hk] at hd
                  obtain ⟨idx, z1, z2⟩ := ev_kb hk
                  subst z1
                  subst z2
                  have hok := ev_in_ok (w := .methodLink own idx objectInit) heok
                  cases st with
                  | nil => cases h
                  | cons v0 r => cases v0 with
                    | ref q =>
                      dsimp only at h
                      split at h
                      · rename_i hc
                        rw [Bool.and_eq_true] at hc
                        have c1 := Nat.le_of_ble_eq_true hc.1
                        have c2 := Nat.le_of_ble_eq_true hc.2
                        refine W.objInit hx hb hown (hts _ hok) (hts _ ev_gOi) (hts _ ev_gOc) rfl (by rw [hml]; exact hl.1) rfl hd (by rw [hfr]; exact c1) ?_ ?_
                        · show 2 * 0 + ((r.map (ev_v b0 b)).map fun v => v.category).sum + 12 ≤ R.locals
                          have := ev_sum_m b0 b r
                          unfold ev_sum at this c2
                          rw [this, hlo]
                          omega
                        · exact IH sc rt ini mx na rc fr lo mc ms t _ L r hp kc ks rv hp' h p l e R s m args below meth c H locs Q cc own D cy b0 b ls hx hb hml hown hts hfr hlo hmc hms hK hP hS hsc hini htk hl hkc hks kk
                      · cases h
                    | _ => cases h
                · rename_i hk
                  have hd := hd3 (fun d lo9 hi9 o z => by subst z; exact ev_k_ts hk)
                  rw [ev_k_len hk] at hd
                  obtain ⟨idx, z1, z2⟩ := ev_kc hk
                  subst z1
                  have hok : Cond.methodLink own idx arraycopyName ∈ ev_tb := by
                    match bb, z2, heok with
                    | 0, z, _ => exact absurd rfl z
                    | bb + 1, _, hok => exact ev_in_ok hok
                  split at h
                  · rename_i st' hp1 hcp
                    split at h
                    · rename_i hc
                      rw [Bool.and_eq_true] at hc
                      have c1 := Nat.le_of_ble_eq_true hc.1
                      have c2 := Nat.le_of_ble_eq_true hc.2
                      obtain ⟨n9, dp, sp, q0, q1, xs, ys, e1, e2, e3, e4, e5⟩ := ev_cp_ok hcp
                      subst e1
                      subst e5
                      refine ev_rcp hx hb (hml.trans hl.1.symm) hown (hts _ hok) (hts _ ev_gNat) (hts _ ev_gSta) (hts _ ev_gSys) hK.1 hP hS e2 e3 e4.1 e4.2.1 e4.2.2.1 e4.2.2.2.1 e4.2.2.2.2 (by rw [hfr]; exact c1) ?_ hd (fun H1 locs1 hP1 hS1 => IH sc rt ini mx na rc fr lo mc ms t _ L st' _ kc ks rv hp' h p l e R s m args below meth c H1 locs1 Q cc own D cy b0 b ls hx hb hml hown hts hfr hlo hmc hms hK hP1 hS1 hsc hini htk hl hkc hks kk)
                      have := ev_sum_m b0 b st'
                      unfold ev_sum at this c2
                      rw [this, hlo]
                      omega
                    · cases h
                  · cases h
                · split at h
                  · rename_i st' hp1 dc ds hs
                    split at h
                    · rename_i hc
                      rw [Bool.and_eq_true] at hc
                      have c1 := Nat.le_of_ble_eq_true hc.1
                      have c2 := Nat.le_of_ble_eq_true hc.2
                      have hd := hd3 (fun d lo9 hi9 o z => by subst z; exact ev_n_ts hs)
                      exact ev_n_ok hx hb hown hts hK hP hS heok hs hd (by rw [hmc]; exact c1) (by rw [hms]; exact c2) (fun H1 hP1 hS1 => IH sc rt ini mx na rc fr lo mc ms t _ L st' hp1 _ _ rv hp' h p l e R s m args below meth c H1 locs Q cc own D cy b0 b ls hx hb hml hown hts hfr hlo hmc hms hK hP1 hS1 hsc hini htk hl c1 c2 kk)
                    · cases h
                  · cases h
