/-! share of both -/
theorem ag42.r (m : Nat → Nat → Int) : ag42 m m := fun _ _ _ _ => rfl
theorem t161 {m : Nat → Nat → Int} (hn : 0 ≤ m 3 5 ∧ m 3 5 ≤ 4) (hp : 0 ≤ m 3 6 ∧ m 3 6 ≤ 5) {k : Int} (rk : -2147483648 ≤ k ∧ k ≤ 2147483647) {c : Int} (rc : -2147483648 ≤ c ∧ c ≤ 2147483647) {h : Int} (rh : -2147483648 ≤ h ∧ h ≤ 2147483647) : h_M 161 [.ref 0, fi (k), fi (c), fi (h)] m (some (fi ((moC m h (iO (c) (iS (1) (k)))) - (moC m h c)))) (gQ (gQ m h c 5 4) h (iO (c) (iS (1) (k))) 5 4) := h_M_of (R := ev_r161) rfl (fun hc hw hm => by
  have hL : f_L (lv_args 0 [.ref 0, fi (k), fi (c), fi (h)]) [(0, .ref 0), (1, fi (k)), (2, fi (c)), (3, fi (h))] := f_L_of rfl
  generalize lv_args 0 [.ref 0, fi (k), fi (c), fi (h)] = L at hL
  show x_W none (1, 0, 5, 3, 10, 4, 90, 0, 0, ev_t161) 0 L [] hc 0 0 _
  have hR := gi_R hm
  refine f_aln 0 rfl hL rfl ?_
  refine m_gfr so0 rfl hw rfl (by decide) ?_
  refine f_aln 0 rfl hL rfl ?_
  refine m_gfr so0 rfl hw rfl (by decide) ?_
  refine f_iln 3 rfl hL rfl ?_
  refine f_iln 2 rfl hL rfl ?_
  refine m_k0 (t104 (s := c) hn hp rh rc) hw hm rfl rfl rfl (m_ar so41 hw rfl) rfl (fun hc1 hw1 hm1 => ?_)
  refine f_aln 0 rfl hL rfl ?_
  refine m_gfr so0 rfl hw1 rfl (by decide) ?_
  refine m_k1 (t110 (m := gQ m h c 5 4) (st_15 hn) st_R2) hw1 hm1 rfl rfl rfl (m_ar so41 hw1 rfl) rfl (fun hc2 hw2 hm2 => ?_)
  refine b_eq (x := moC m h c) gg_st ?_
  refine f_ist [(4, fi (moC m h c)), (0, .ref 0), (1, fi (k)), (2, fi (c)), (3, fi (h))] rfl (by decide) hL rfl (fun L1 hL1 => ?_)
  refine f_aln 1 rfl hL1 rfl ?_
  refine m_gfr so0 rfl hw2 rfl (by decide) ?_
  refine f_aln 1 rfl hL1 rfl ?_
  refine m_gfr so0 rfl hw2 rfl (by decide) ?_
  refine f_iln 4 rfl hL1 rfl ?_
  refine f_iln 3 rfl hL1 rfl ?_
  refine f_s [fi (1), fi (c), fi (h), .ref 9, .ref 41] rfl rfl ?_
  refine f_iln 2 rfl hL1 rfl ?_
  refine b_ishl rfl ?_
  refine b_ior rfl ?_
  have hn1 : 0 ≤ (gQ m h c 5 4) 3 5 ∧ (gQ m h c 5 4) 3 5 ≤ 4 := by rw [gQ_ne (by decide) (by decide)]; exact hn
  have hp1 : 0 ≤ (gQ m h c 5 4) 3 6 ∧ (gQ m h c 5 4) 3 6 ≤ 5 := by rw [gQ_ne (by decide) (by decide)]; exact hp
  refine m_k0 (t104 (m := gQ m h c 5 4) (s := iO (c) (iS (1) (k))) hn1 hp1 rh iO_r) hw2 hm2 rfl rfl rfl (m_ar so41 hw2 rfl) rfl (fun hc3 hw3 hm3 => ?_)
  refine f_aln 1 rfl hL1 rfl ?_
  refine m_gfr so0 rfl hw3 rfl (by decide) ?_
  refine m_k1 (t110 (m := gQ (gQ m h c 5 4) h (iO (c) (iS (1) (k))) 5 4) (st_15 hn1) st_R2) hw3 hm3 rfl rfl rfl (m_ar so41 hw3 rfl) rfl (fun hc4 hw4 hm4 => ?_)
  refine b_eq (x := moC m h (iO (c) (iS (1) (k)))) (gg_st.trans (moC_c ((ag42.r m).g (h := h) (s := c)).n)) ?_
  refine f_il 0 rfl hL1 rfl ?_
  refine f_isub rfl ?_
  exact f_ret1 rfl ⟨rfl, hw4, hm4⟩)
theorem t163 {m : Nat → Nat → Int} (hn : 0 ≤ m 3 5 ∧ m 3 5 ≤ 4) {a : Int} (ha9 : 0 ≤ a ∧ a ≤ m 3 5 - 1) : h_M 163 [.ref 0, fi (a)] m (some (fi ((fa a) * (fa (((m 3 5) - 1) - a))))) m := h_M_of (R := ev_r163) rfl (fun hc hw hm => by
  have hL : f_L (lv_args 0 [.ref 0, fi (a)]) [(0, .ref 0), (1, fi (a))] := f_L_of rfl
  generalize lv_args 0 [.ref 0, fi (a)] = L at hL
  show x_W none (1, 0, 2, 1, 10, 1, 22, 0, 0, ev_t163) 0 L [] hc 0 0 _
  have hR := gi_R hm
  refine f_iln 1 rfl hL rfl ?_
  refine m_k1 (t162 (n := a) (by omega)) hw hm rfl rfl rfl rfl rfl (fun hc1 hw1 hm1 => ?_)
  refine f_aln 0 rfl hL rfl ?_
  refine m_gfr so0 rfl hw1 rfl (by decide) ?_
  refine m_k1 t36 hw1 hm1 rfl rfl rfl (m_ar so3 hw1 rfl) rfl (fun hc2 hw2 hm2 => ?_)
  refine f_s [fi (1), fi (m 3 5), fi (fa a)] rfl rfl ?_
  refine f_isub rfl ?_
  refine f_iln 1 rfl hL rfl ?_
  refine f_isub rfl ?_
  refine m_k1 (t162 (n := ((m 3 5) - 1) - a) (by omega)) hw2 hm2 rfl rfl rfl rfl rfl (fun hc3 hw3 hm3 => ?_)
  refine f_imul rfl ?_
  exact f_ret1 rfl ⟨rfl, hw3, hm3⟩)
theorem shK {N k : Nat} (hN : N ≤ 4) (hk : k < N) {c : Int} (hc9 : 0 ≤ c ∧ c < 16) : decide (iA (c) (iX (iA ((iS (1) ((N : Int))) - 1) (iX (iS (1) ((k : Int))) (-1))) (-1)) = 0) = (decide (c < iS 1 (N : Int)) && decide (¬ iA (iR (c) ((k : Int))) (1) = 1)) ∧ bC c = onS c ∧ (c < iS 1 (N : Int) → ¬ iA (iR (c) ((k : Int))) (1) = 1 → (0 ≤ bC c ∧ bC c ≤ (N : Int) - 1) ∧ (0 ≤ iO (c) (iS (1) ((k : Int))) ∧ iO (c) (iS (1) ((k : Int))) < iS 1 (N : Int))) := by
  have key : ∀ N : Fin 5, ∀ k : Fin 4, ∀ c : Fin 16, k.val < N.val → decide (iA (((c.val : Nat) : Int)) (iX (iA ((iS (1) (((N.val : Nat) : Int))) - 1) (iX (iS (1) (((k.val : Nat) : Int))) (-1))) (-1)) = 0) = (decide (((c.val : Nat) : Int) < iS 1 ((N.val : Nat) : Int)) && decide (¬ iA (iR (((c.val : Nat) : Int)) (((k.val : Nat) : Int))) (1) = 1)) ∧ bC ((c.val : Nat) : Int) = onS ((c.val : Nat) : Int) ∧ (((c.val : Nat) : Int) < iS 1 ((N.val : Nat) : Int) → ¬ iA (iR (((c.val : Nat) : Int)) (((k.val : Nat) : Int))) (1) = 1 → (0 ≤ bC ((c.val : Nat) : Int) ∧ bC ((c.val : Nat) : Int) ≤ ((N.val : Nat) : Int) - 1) ∧ (0 ≤ iO (((c.val : Nat) : Int)) (iS (1) (((k.val : Nat) : Int))) ∧ iO (((c.val : Nat) : Int)) (iS (1) (((k.val : Nat) : Int))) < iS 1 ((N.val : Nat) : Int))) := by decide +kernel
  have h := key ⟨N, by omega⟩ ⟨k, by omega⟩ ⟨c.toNat, by omega⟩ hk
  have e : ((c.toNat : Nat) : Int) = c := by omega
  simp only [e] at h
  exact h
theorem iS_N {N : Nat} (hN : N ≤ 4) : iS 1 (N : Int) = ((2 ^ N : Nat) : Int) ∧ (1 ≤ 2 ^ N ∧ 2 ^ N ≤ 16) := by
  have key : ∀ N : Fin 5, iS 1 ((N.val : Nat) : Int) = ((2 ^ N.val : Nat) : Int) ∧ (1 ≤ 2 ^ N.val ∧ 2 ^ N.val ≤ 16) := by decide +kernel
  exact key ⟨N, by omega⟩
/-- more names, no fewer somebodies -/
theorem ou_le {w w' : B4} (h : ∀ k, bk w k = true → bk w' k = true) (U : B4) : ou w U ≤ ou w' U := by
  cases ho : ouB w U with
  | false =>
    have : ou w U = 0 := by unfold ou; rw [ho]; rfl
    have := (ou_r w' U).1
    omega
  | true =>
    obtain ⟨k, -, k1, k2⟩ := ouB_k ho
    rw [ouB_of (h k k1) k2]
    exact (ou_r w U).2
theorem NN_le {W W' : Nat → B4} (h : ∀ p k, bk (W p) k = true → bk (W' p) k = true) (U : B4) : ∀ n, NN W U n ≤ NN W' U n
  | 0 => Int.le_refl _
  | n + 1 => by
    have h1 := NN_le h U n
    have h2 := ou_le (h (4 - n)) U
    show ou (W (4 - n)) U + NN W U n ≤ ou (W' (4 - n)) U + NN W' U n
    omega
theorem gg_mono {W W' : Nat → B4} (h : ∀ p k, bk (W p) k = true → bk (W' p) k = true) {n : Nat} {R : Nat → Int} (hR : Rp R) : gg W n R ≤ gg W' n R := by
  obtain ⟨U, hU⟩ := gg_ge W' n R hR
  have h1 := gg_le W n R U hR
  have h2 := NN_le h U n
  have h3 : ct W n R U = rU R U + NN W U n := rfl
  have h4 : ct W' n R U = rU R U + NN W' U n := rfl
  omega
theorem tB_or (x y : Int) {k : Nat} (h : k < 4) : tB (iO x y) (k : Int) = (tB x (k : Int) || tB y (k : Int)) := by
  rw [tB_bit (k_k h) (by omega), tB_bit (k_k h) (by omega), tB_bit (k_k h) (by omega)]
  have e : (Int32.ofInt (iO x y)).toBitVec = (Int32.ofInt x).toBitVec ||| (Int32.ofInt y).toBitVec := by
    unfold iO
    rw [Int32.ofInt_toInt]
    rfl
  rw [e, BitVec.getLsbD_or]
theorem wnt_mono {m : Nat → Nat → Int} {h s s' : Int} (hs : ∀ k : Nat, k < 4 → tB s (k : Int) = true → tB s' (k : Int) = true) (x : Int) : ∀ k, bk (b4 (wnt m h s x)) k = true → bk (b4 (wnt m h s' x)) k = true := fun k hk => by
  have k4 := bk_lt hk
  rw [b4_k _ k4] at hk ⊢
  unfold wnt at hk ⊢
  split at hk
  · rename_i c
    rw [if_pos c, tB_and _ _ k4, tB_and _ _ k4]
    rw [tB_and _ _ k4, tB_and _ _ k4, Bool.and_eq_true, Bool.and_eq_true] at hk
    rw [hk.1, hs k k4 hk.2.1, hk.2.2]
    rfl
  · rw [tB_0 k4] at hk
    cases hk
theorem gR_p (m : Nat → Nat → Int) : Rp (gR m) := fun k _ => by have := rm_12 m (k : Int); show 0 ≤ rm m (k : Int); omega
theorem gain_r {m : Nat → Nat → Int} {h c k : Int} : 0 ≤ moC m h (iO (c) (iS (1) (k))) - moC m h c ∧ moC m h (iO (c) (iS (1) (k))) - moC m h c ≤ 5 := by
  have h1 := moC_r (m := m) (h := h) (s := c)
  have h2 := moC_r (m := m) (h := h) (s := iO (c) (iS (1) (k)))
  have h3 : moC m h c ≤ moC m h (iO (c) (iS (1) (k))) := gg_mono (fun p => wnt_mono (fun j hj z => by rw [tB_or _ _ hj, z]; rfl) _) (gR_p m)
  omega
theorem ord_r {a b : Int} (h : 0 ≤ a ∧ 0 ≤ b ∧ a + b ≤ 3) : 1 ≤ fa a * fa b ∧ fa a * fa b ≤ 6 := by
  have ha : a = 0 ∨ a = 1 ∨ a = 2 ∨ a = 3 := by omega
  have hb : b = 0 ∨ b = 1 ∨ b = 2 ∨ b = 3 := by omega
  rcases ha with rfl | rfl | rfl | rfl <;> rcases hb with rfl | rfl | rfl | rfl <;> first | decide | omega
def tmC (m : Nat → Nat → Int) (k h c : Int) : Int := (moC m h (iO (c) (iS (1) (k))) - moC m h c) * (fa (bC c) * fa (m 3 5 - 1 - bC c))
def shC (m : Nat → Nat → Int) (k h : Int) : Nat → Int → Int
  | 0, _ => 0
  | n + 1, c => (if iA (c) (iX (iA ((iS (1) (m 3 5)) - 1) (iX (iS (1) (k)) (-1))) (-1)) = 0 then tmC m k h c else 0) + shC m k h n (c + 1)
theorem shK_m {m : Nat → Nat → Int} (hn : 0 ≤ m 3 5 ∧ m 3 5 ≤ 4) {k : Int} (hk : 0 ≤ k ∧ k < m 3 5) {c : Int} (hc9 : 0 ≤ c ∧ c < 16) : decide (iA (c) (iX (iA ((iS (1) (m 3 5)) - 1) (iX (iS (1) (k)) (-1))) (-1)) = 0) = (decide (c < iS 1 (m 3 5)) && decide (¬ iA (iR (c) (k)) (1) = 1)) ∧ bC c = onS c ∧ (c < iS 1 (m 3 5) → ¬ iA (iR (c) (k)) (1) = 1 → (0 ≤ bC c ∧ bC c ≤ m 3 5 - 1) ∧ (0 ≤ iO (c) (iS (1) (k)) ∧ iO (c) (iS (1) (k)) < iS 1 (m 3 5))) := by
  have h := shK (N := (m 3 5).toNat) (k := k.toNat) (by omega) (by omega) hc9
  rw [show (((m 3 5).toNat : Nat) : Int) = m 3 5 by omega, show ((k.toNat : Nat) : Int) = k by omega] at h
  exact h
theorem sh_c {m : Nat → Nat → Int} (hn : 0 ≤ m 3 5 ∧ m 3 5 ≤ 4) {k : Int} (hk : 0 ≤ k ∧ k < m 3 5) {c : Int} (hc9 : 0 ≤ c ∧ c < 16) (h : iA (c) (iX (iA ((iS (1) (m 3 5)) - 1) (iX (iS (1) (k)) (-1))) (-1)) = 0) : c < iS 1 (m 3 5) ∧ ¬ iA (iR (c) (k)) (1) = 1 := by
  have := (shK_m hn hk hc9).1
  rw [decide_eq_true h] at this
  have := this.symm
  rw [Bool.and_eq_true] at this
  exact ⟨of_decide_eq_true this.1, of_decide_eq_true this.2⟩
theorem tm_r {m : Nat → Nat → Int} (hn : 0 ≤ m 3 5 ∧ m 3 5 ≤ 4) {k : Int} (hk : 0 ≤ k ∧ k < m 3 5) {c h : Int} (hc9 : 0 ≤ c ∧ c < 16) (hz : iA (c) (iX (iA ((iS (1) (m 3 5)) - 1) (iX (iS (1) (k)) (-1))) (-1)) = 0) : 0 ≤ tmC m k h c ∧ tmC m k h c ≤ 30 := by
  obtain ⟨z1, z2⟩ := sh_c hn hk hc9 hz
  obtain ⟨b1, -⟩ := (shK_m hn hk hc9).2.2 z1 z2
  have g := gain_r (m := m) (h := h) (c := c) (k := k)
  have o1 := ord_r (a := bC c) (b := m 3 5 - 1 - bC c) ⟨b1.1, by omega, by omega⟩
  unfold tmC
  generalize moC m h (iO (c) (iS (1) (k))) - moC m h c = x at g
  generalize fa (bC c) * fa (m 3 5 - 1 - bC c) = y at o1
  have a1 : 0 ≤ x * y := Int.mul_nonneg g.1 (by omega)
  have a2 : x * y ≤ 5 * 6 := Int.mul_le_mul g.2 o1.2 (by omega) (by decide)
  exact ⟨a1, by omega⟩
theorem t161_x {m m' : Nat → Nat → Int} (e : ag42 m m') (hn : 0 ≤ m 3 5 ∧ m 3 5 ≤ 4) (hp : 0 ≤ m 3 6 ∧ m 3 6 ≤ 5) {k : Int} (rk : -2147483648 ≤ k ∧ k ≤ 2147483647) {c : Int} (rc : -2147483648 ≤ c ∧ c ≤ 2147483647) {h : Int} (rh : -2147483648 ≤ h ∧ h ≤ 2147483647) : ∃ m2, ag42 m m2 ∧ h_M 161 [.ref 0, fi (k), fi (c), fi (h)] m' (some (fi (moC m h (iO (c) (iS (1) (k))) - moC m h c))) m2 := by
  have t := t161 (m := m') (by rw [e.n.1.2.1]; exact hn) (by rw [e.n.1.1]; exact hp) rk rc rh
  rw [moC_c e.n, moC_c e.n] at t
  exact ⟨gQ (gQ m' h c 5 4) h (iO (c) (iS (1) (k))) 5 4, e.g.g, t⟩
theorem t166_0_un {m : Nat → Nat → Int} (hn : 0 ≤ m 3 5 ∧ m 3 5 ≤ 4) {k : Int} (rk : -2147483648 ≤ k ∧ k ≤ 2147483647) {h : Int} (rh : -2147483648 ≤ h ∧ h ≤ 2147483647) (h0 : ¬ (0 ≤ k ∧ k < m 3 5)) : h_E 166 [.ref 0, fi (k), fi (h), fi (0)] m (some (fi (-1))) := h_E_of (R := ev_r166) rfl (fun hc hw hm => by
  have hL : f_L (lv_args 0 [.ref 0, fi (k), fi (h), fi (0)]) [(0, .ref 0), (1, fi (k)), (2, fi (h)), (3, fi (0))] := f_L_of rfl
  generalize lv_args 0 [.ref 0, fi (k), fi (h), fi (0)] = L at hL
  show x_W none (1, 0, 7, 3, 10, 5, 114, 0, 0, ev_t166) 0 L [] hc 0 0 _
  have hR := gi_R hm
  refine f_aln 0 rfl hL rfl ?_
  refine m_gfr so0 rfl hw rfl (by decide) ?_
  refine f_iln 1 rfl hL rfl ?_
  refine m_k1 (t40 hn.2 rk) hw hm rfl rfl rfl (m_ar so3 hw rfl) rfl (fun hc1 hw1 hm1 => ?_)
  refine f_if rfl (bI_r _) (fun c_9 => absurd (show ¬ (bI (decide (0 ≤ k ∧ k < m 3 5)) : Int) = (0 : Int) from c_9) (by rw [decide_eq_false h0]; exact fun z => z rfl)) (fun _ => ?_)
  refine f_s [fi (-1)] rfl rfl ?_
  exact f_ret1 rfl (rfl))
theorem t166_0_out {m : Nat → Nat → Int} (hn : 0 ≤ m 3 5 ∧ m 3 5 ≤ 4) {k : Int} (rk : -2147483648 ≤ k ∧ k ≤ 2147483647) {h : Int} (rh : -2147483648 ≤ h ∧ h ≤ 2147483647) (hk : 0 ≤ k ∧ k < m 3 5) (h0 : ¬ (0 ≤ h ∧ h < 10)) : h_E 166 [.ref 0, fi (k), fi (h), fi (0)] m (some (fi (-2))) := h_E_of (R := ev_r166) rfl (fun hc hw hm => by
  have hL : f_L (lv_args 0 [.ref 0, fi (k), fi (h), fi (0)]) [(0, .ref 0), (1, fi (k)), (2, fi (h)), (3, fi (0))] := f_L_of rfl
  generalize lv_args 0 [.ref 0, fi (k), fi (h), fi (0)] = L at hL
  show x_W none (1, 0, 7, 3, 10, 5, 114, 0, 0, ev_t166) 0 L [] hc 0 0 _
  have hR := gi_R hm
  refine f_aln 0 rfl hL rfl ?_
  refine m_gfr so0 rfl hw rfl (by decide) ?_
  refine f_iln 1 rfl hL rfl ?_
  refine m_k1 (t40 hn.2 rk) hw hm rfl rfl rfl (m_ar so3 hw rfl) rfl (fun hc1 hw1 hm1 => ?_)
  refine f_if rfl (bI_r _) (fun _ => ?_) (fun c_9 => absurd (show ¬ (bI (decide (0 ≤ k ∧ k < m 3 5)) : Int) = (0 : Int) from (by rw [decide_eq_true hk]; decide)) c_9)
  refine f_iln 2 rfl hL rfl ?_
  refine m_k1 (t101h rh) hw1 hm1 rfl rfl rfl rfl rfl (fun hc2 hw2 hm2 => ?_)
  refine f_if rfl (bI_r _) (fun c_9 => absurd (show ¬ (bI (decide (0 ≤ h ∧ h < 10)) : Int) = (0 : Int) from c_9) (by rw [decide_eq_false h0]; exact fun z => z rfl)) (fun _ => ?_)
  refine f_bipush (n := -2) rfl (by decide) ?_
  exact f_ret1 rfl (rfl))
theorem t166_0_ok {m : Nat → Nat → Int} (hn : 0 ≤ m 3 5 ∧ m 3 5 ≤ 4) (hp : 0 ≤ m 3 6 ∧ m 3 6 ≤ 5) {k : Int} (rk : -2147483648 ≤ k ∧ k ≤ 2147483647) {h : Int} (rh : -2147483648 ≤ h ∧ h ≤ 2147483647) (hk : 0 ≤ k ∧ k < m 3 5) (hh : 0 ≤ h ∧ h < 10) : h_E 166 [.ref 0, fi (k), fi (h), fi (0)] m (some (fi ((fa (m 3 5)).tdiv (eG (shC m k h 16 0) (fa (m 3 5)))))) := h_E_of (R := ev_r166) rfl (fun hc hw hm => by
  have hL : f_L (lv_args 0 [.ref 0, fi (k), fi (h), fi (0)]) [(0, .ref 0), (1, fi (k)), (2, fi (h)), (3, fi (0))] := f_L_of rfl
  generalize lv_args 0 [.ref 0, fi (k), fi (h), fi (0)] = L at hL
  show x_W none (1, 0, 7, 3, 10, 5, 114, 0, 0, ev_t166) 0 L [] hc 0 0 _
  have hR := gi_R hm
  have hK : ∀ (n : Nat) (hc : ev_H) (m' : Nat → Nat → Int) (c s : Int) (L : ev_L), y_in yGw hc → gi hc = m' → ag42 m m' → (0 ≤ c ∧ c + n = 16) → (0 ≤ s ∧ s ≤ 30 * c) → s + shC m k h n c = shC m k h 16 0 → f_L L [(6, fi (c)), (5, fi (s)), (4, fi (iA ((iS (1) (m 3 5)) - 1) (iX (iS (1) (k)) (-1)))), (0, .ref 0), (1, fi (k)), (2, fi (h)), (3, fi (0))] → x_W none (1, 0, 7, 3, 10, 5, 114, 0, 0, ev_t166) 48 L [] hc 0 0 (fun r' _ => r' = some (fi ((fa (m 3 5)).tdiv (eG (shC m k h 16 0) (fa (m 3 5)))))) := by
    intro n
    induction n with
    | zero =>
      intro hc m' c s L hw hm ha hc9 hs hT hL
      refine f_il 0 rfl hL rfl ?_
      refine f_bipush (n := 16) rfl (by decide) ?_
      refine f_ic rfl (by omega) (by decide) (fun _ => ?_) (fun c_9 => absurd (show (16 : Int) ≤ (c : Int) from (by omega)) c_9)
      have eT : s = shC m k h 16 0 := by rw [← hT]; show s = s + 0; omega
      refine f_il 1 rfl hL rfl ?_
      refine f_aln 3 rfl hL rfl ?_
      refine m_gfr so0 rfl hw rfl (by decide) ?_
      have t36' := t36 (m := m')
      rw [ha.n.1.2.1] at t36'
      refine m_k1 t36' hw hm rfl rfl rfl (m_ar so3 hw rfl) rfl (fun hc1 hw1 hm1 => ?_)
      refine m_k1 (t162 (n := m 3 5) (by omega)) hw1 hm1 rfl rfl rfl rfl rfl (fun hc2 hw2 hm2 => ?_)
      refine f_iln 6 rfl hL rfl ?_
      have fr := fa_r (m 3 5)
      obtain ⟨g1, g2⟩ := eG_ok (a := s) (b := fa (m 3 5)) hs.1 fr
      refine m_k1 (t165_0 (a := s) (b := fa (m 3 5)) (g := eG s (fa (m 3 5))) (by omega) (by omega) (by omega) (by omega) g1 g2) hw2 hm2 rfl rfl rfl rfl rfl (fun hc3 hw3 hm3 => ?_)
      exact f_ret1 rfl (by rw [eT])
    | succ n ih =>
      intro hc m' c s L hw hm ha hc9 hs hT hL
      refine f_il 0 rfl hL rfl ?_
      refine f_bipush (n := 16) rfl (by decide) ?_
      refine f_ic rfl (by omega) (by decide) (fun c_9 => absurd (show (16 : Int) ≤ (c : Int) from c_9) (by omega)) (fun _ => ?_)
      refine f_il 0 rfl hL rfl ?_
      refine f_il 2 rfl hL rfl ?_
      refine f_s [fi (-1), fi (iA ((iS (1) (m 3 5)) - 1) (iX (iS (1) (k)) (-1))), fi (c)] rfl rfl ?_
      refine b_ixor rfl ?_
      refine b_iand rfl ?_
      refine f_if rfl iA_r (fun c1 => ?_) (fun c1 => ?_)
      · have c1 : ¬ (iA (c) (iX (iA ((iS (1) (m 3 5)) - 1) (iX (iS (1) (k)) (-1))) (-1)) : Int) = (0 : Int) := c1
        refine f_inc 0 [(6, fi (c + 1)), (5, fi (s)), (4, fi (iA ((iS (1) (m 3 5)) - 1) (iX (iS (1) (k)) (-1)))), (0, .ref 0), (1, fi (k)), (2, fi (h)), (3, fi (0))] rfl (by decide) hL rfl rfl (fun L1 hL1 => ?_)
        refine f_goto rfl ?_
        have e9 : shC m k h (n + 1) c = 0 + shC m k h n (c + 1) := by
          show (if iA (c) (iX (iA ((iS (1) (m 3 5)) - 1) (iX (iS (1) (k)) (-1))) (-1)) = 0 then tmC m k h c else 0) + _ = _
          rw [if_neg c1]
        exact ih hc m' _ _ _ hw hm ha (by omega) (by omega) (by rw [← hT, e9]; omega) (hL1.sel [0, 1, 2, 3, 4, 5, 6] rfl)
      · have c1 : ¬ (¬ (iA (c) (iX (iA ((iS (1) (m 3 5)) - 1) (iX (iS (1) (k)) (-1))) (-1)) : Int) = (0 : Int)) := c1
        have c1 : iA (c) (iX (iA ((iS (1) (m 3 5)) - 1) (iX (iS (1) (k)) (-1))) (-1)) = 0 := Classical.byContradiction c1
        have r9 := tm_r (h := h) hn hk (by omega) c1
        obtain ⟨z1, z2⟩ := sh_c hn hk (by omega) c1
        obtain ⟨b1, -⟩ := (shK_m hn hk (c := c) (by omega)).2.2 z1 z2
        refine f_il 1 rfl hL rfl ?_
        refine f_aln 3 rfl hL rfl ?_
        refine f_iln 4 rfl hL rfl ?_
        refine f_il 0 rfl hL rfl ?_
        refine f_iln 5 rfl hL rfl ?_
        obtain ⟨m9, q9, t9⟩ := t161_x ha hn hp rk (c := c) (by omega) rh
        refine m_k1 t9 hw hm rfl rfl rfl (m_ar so0 hw rfl) rfl (fun hc4 hw4 hm4 => ?_)
        refine f_aln 3 rfl hL rfl ?_
        refine f_il 0 rfl hL rfl ?_
        refine m_k1 (t65 (x := c) (by omega)) hw4 hm4 rfl rfl rfl rfl rfl (fun hc5 hw5 hm5 => ?_)
        have t8 := t163 (m := m9) (a := bC c) (by rw [q9.n.1.2.1]; exact hn) (by rw [q9.n.1.2.1]; exact b1)
        rw [q9.n.1.2.1] at t8
        refine m_k1 t8 hw5 hm5 rfl rfl rfl (m_ar so0 hw5 rfl) rfl (fun hc6 hw6 hm6 => ?_)
        refine f_imul rfl ?_
        refine f_iadd rfl ?_
        refine f_ist [(5, fi (s + (((moC m h (iO (c) (iS (1) (k)))) - (moC m h c)) * ((fa (bC c)) * (fa (((m 3 5) - 1) - (bC c))))))), (6, fi (c)), (4, fi (iA ((iS (1) (m 3 5)) - 1) (iX (iS (1) (k)) (-1)))), (0, .ref 0), (1, fi (k)), (2, fi (h)), (3, fi (0))] rfl (by decide) hL rfl (fun L2 hL2 => ?_)
        refine f_inc 1 [(6, fi (c + 1)), (5, fi (s + (((moC m h (iO (c) (iS (1) (k)))) - (moC m h c)) * ((fa (bC c)) * (fa (((m 3 5) - 1) - (bC c))))))), (4, fi (iA ((iS (1) (m 3 5)) - 1) (iX (iS (1) (k)) (-1)))), (0, .ref 0), (1, fi (k)), (2, fi (h)), (3, fi (0))] rfl (by decide) hL2 rfl rfl (fun L3 hL3 => ?_)
        refine f_goto rfl ?_
        have e9 : shC m k h (n + 1) c = tmC m k h c + shC m k h n (c + 1) := by
          show (if iA (c) (iX (iA ((iS (1) (m 3 5)) - 1) (iX (iS (1) (k)) (-1))) (-1)) = 0 then tmC m k h c else 0) + _ = _
          rw [if_pos c1]
        exact ih hc6 m9 _ (s + tmC m k h c) _ hw6 hm6 q9 (by omega) (by omega) (by rw [← hT, e9]; omega) (hL3.sel [0, 1, 2, 3, 4, 5, 6] rfl)
  refine f_aln 0 rfl hL rfl ?_
  refine m_gfr so0 rfl hw rfl (by decide) ?_
  refine f_iln 1 rfl hL rfl ?_
  refine m_k1 (t40 hn.2 rk) hw hm rfl rfl rfl (m_ar so3 hw rfl) rfl (fun hc7 hw7 hm7 => ?_)
  refine f_if rfl (bI_r _) (fun _ => ?_) (fun c_9 => absurd (show ¬ (bI (decide (0 ≤ k ∧ k < m 3 5)) : Int) = (0 : Int) from (by rw [decide_eq_true hk]; decide)) c_9)
  refine f_iln 2 rfl hL rfl ?_
  refine m_k1 (t101h rh) hw7 hm7 rfl rfl rfl rfl rfl (fun hc8 hw8 hm8 => ?_)
  refine f_if rfl (bI_r _) (fun _ => ?_) (fun c_9 => absurd (show ¬ (bI (decide (0 ≤ h ∧ h < 10)) : Int) = (0 : Int) from (by rw [decide_eq_true hh]; decide)) c_9)
  refine f_s [fi (1)] rfl rfl ?_
  refine f_aln 0 rfl hL rfl ?_
  refine m_gfr so0 rfl hw8 rfl (by decide) ?_
  refine m_k1 t36 hw8 hm8 rfl rfl rfl (m_ar so3 hw8 rfl) rfl (fun hc9 hw9 hm9 => ?_)
  refine b_ishl rfl ?_
  refine f_s [fi (1), fi (iS (1) (m 3 5))] rfl rfl ?_
  refine f_isub rfl ?_
  refine f_s [fi (1), fi ((iS (1) (m 3 5)) - 1)] rfl rfl ?_
  refine f_iln 1 rfl hL rfl ?_
  refine b_ishl rfl ?_
  refine f_s [fi (-1), fi (iS (1) (k)), fi ((iS (1) (m 3 5)) - 1)] rfl rfl ?_
  refine b_ixor rfl ?_
  refine b_iand rfl ?_
  refine f_ist [(4, fi (iA ((iS (1) (m 3 5)) - 1) (iX (iS (1) (k)) (-1)))), (0, .ref 0), (1, fi (k)), (2, fi (h)), (3, fi (0))] rfl (by decide) hL rfl (fun L4 hL4 => ?_)
  refine f_s [fi (0)] rfl rfl ?_
  refine f_ist [(5, fi (0)), (4, fi (iA ((iS (1) (m 3 5)) - 1) (iX (iS (1) (k)) (-1)))), (0, .ref 0), (1, fi (k)), (2, fi (h)), (3, fi (0))] rfl (by decide) hL4 rfl (fun L5 hL5 => ?_)
  refine f_s [fi (0)] rfl rfl ?_
  refine f_ist [(6, fi (0)), (5, fi (0)), (4, fi (iA ((iS (1) (m 3 5)) - 1) (iX (iS (1) (k)) (-1)))), (0, .ref 0), (1, fi (k)), (2, fi (h)), (3, fi (0))] rfl (by decide) hL5 rfl (fun L6 hL6 => ?_)
  exact hK 16 hc9 m 0 0 _ hw9 hm9 (ag42.r m) (by decide) (by decide) (by omega) (hL6.sel [0, 1, 2, 3, 4, 5, 6] rfl))
theorem t166_1_un {m : Nat → Nat → Int} (hn : 0 ≤ m 3 5 ∧ m 3 5 ≤ 4) {k : Int} (rk : -2147483648 ≤ k ∧ k ≤ 2147483647) {h : Int} (rh : -2147483648 ≤ h ∧ h ≤ 2147483647) (h0 : ¬ (0 ≤ k ∧ k < m 3 5)) : h_E 166 [.ref 0, fi (k), fi (h), fi (1)] m (some (fi (-1))) := h_E_of (R := ev_r166) rfl (fun hc hw hm => by
  have hL : f_L (lv_args 0 [.ref 0, fi (k), fi (h), fi (1)]) [(0, .ref 0), (1, fi (k)), (2, fi (h)), (3, fi (1))] := f_L_of rfl
  generalize lv_args 0 [.ref 0, fi (k), fi (h), fi (1)] = L at hL
  show x_W none (1, 0, 7, 3, 10, 5, 114, 0, 0, ev_t166) 0 L [] hc 0 0 _
  have hR := gi_R hm
  refine f_aln 0 rfl hL rfl ?_
  refine m_gfr so0 rfl hw rfl (by decide) ?_
  refine f_iln 1 rfl hL rfl ?_
  refine m_k1 (t40 hn.2 rk) hw hm rfl rfl rfl (m_ar so3 hw rfl) rfl (fun hc1 hw1 hm1 => ?_)
  refine f_if rfl (bI_r _) (fun c_9 => absurd (show ¬ (bI (decide (0 ≤ k ∧ k < m 3 5)) : Int) = (0 : Int) from c_9) (by rw [decide_eq_false h0]; exact fun z => z rfl)) (fun _ => ?_)
  refine f_s [fi (-1)] rfl rfl ?_
  exact f_ret1 rfl (rfl))
theorem t166_1_out {m : Nat → Nat → Int} (hn : 0 ≤ m 3 5 ∧ m 3 5 ≤ 4) {k : Int} (rk : -2147483648 ≤ k ∧ k ≤ 2147483647) {h : Int} (rh : -2147483648 ≤ h ∧ h ≤ 2147483647) (hk : 0 ≤ k ∧ k < m 3 5) (h0 : ¬ (0 ≤ h ∧ h < 10)) : h_E 166 [.ref 0, fi (k), fi (h), fi (1)] m (some (fi (-2))) := h_E_of (R := ev_r166) rfl (fun hc hw hm => by
  have hL : f_L (lv_args 0 [.ref 0, fi (k), fi (h), fi (1)]) [(0, .ref 0), (1, fi (k)), (2, fi (h)), (3, fi (1))] := f_L_of rfl
  generalize lv_args 0 [.ref 0, fi (k), fi (h), fi (1)] = L at hL
  show x_W none (1, 0, 7, 3, 10, 5, 114, 0, 0, ev_t166) 0 L [] hc 0 0 _
  have hR := gi_R hm
  refine f_aln 0 rfl hL rfl ?_
  refine m_gfr so0 rfl hw rfl (by decide) ?_
  refine f_iln 1 rfl hL rfl ?_
  refine m_k1 (t40 hn.2 rk) hw hm rfl rfl rfl (m_ar so3 hw rfl) rfl (fun hc1 hw1 hm1 => ?_)
  refine f_if rfl (bI_r _) (fun _ => ?_) (fun c_9 => absurd (show ¬ (bI (decide (0 ≤ k ∧ k < m 3 5)) : Int) = (0 : Int) from (by rw [decide_eq_true hk]; decide)) c_9)
  refine f_iln 2 rfl hL rfl ?_
  refine m_k1 (t101h rh) hw1 hm1 rfl rfl rfl rfl rfl (fun hc2 hw2 hm2 => ?_)
  refine f_if rfl (bI_r _) (fun c_9 => absurd (show ¬ (bI (decide (0 ≤ h ∧ h < 10)) : Int) = (0 : Int) from c_9) (by rw [decide_eq_false h0]; exact fun z => z rfl)) (fun _ => ?_)
  refine f_bipush (n := -2) rfl (by decide) ?_
  exact f_ret1 rfl (rfl))
theorem t166_1_ok {m : Nat → Nat → Int} (hn : 0 ≤ m 3 5 ∧ m 3 5 ≤ 4) (hp : 0 ≤ m 3 6 ∧ m 3 6 ≤ 5) {k : Int} (rk : -2147483648 ≤ k ∧ k ≤ 2147483647) {h : Int} (rh : -2147483648 ≤ h ∧ h ≤ 2147483647) (hk : 0 ≤ k ∧ k < m 3 5) (hh : 0 ≤ h ∧ h < 10) : h_E 166 [.ref 0, fi (k), fi (h), fi (1)] m (some (fi ((shC m k h 16 0).tdiv (eG (shC m k h 16 0) (fa (m 3 5)))))) := h_E_of (R := ev_r166) rfl (fun hc hw hm => by
  have hL : f_L (lv_args 0 [.ref 0, fi (k), fi (h), fi (1)]) [(0, .ref 0), (1, fi (k)), (2, fi (h)), (3, fi (1))] := f_L_of rfl
  generalize lv_args 0 [.ref 0, fi (k), fi (h), fi (1)] = L at hL
  show x_W none (1, 0, 7, 3, 10, 5, 114, 0, 0, ev_t166) 0 L [] hc 0 0 _
  have hR := gi_R hm
  have hK : ∀ (n : Nat) (hc : ev_H) (m' : Nat → Nat → Int) (c s : Int) (L : ev_L), y_in yGw hc → gi hc = m' → ag42 m m' → (0 ≤ c ∧ c + n = 16) → (0 ≤ s ∧ s ≤ 30 * c) → s + shC m k h n c = shC m k h 16 0 → f_L L [(6, fi (c)), (5, fi (s)), (4, fi (iA ((iS (1) (m 3 5)) - 1) (iX (iS (1) (k)) (-1)))), (0, .ref 0), (1, fi (k)), (2, fi (h)), (3, fi (1))] → x_W none (1, 0, 7, 3, 10, 5, 114, 0, 0, ev_t166) 48 L [] hc 0 0 (fun r' _ => r' = some (fi ((shC m k h 16 0).tdiv (eG (shC m k h 16 0) (fa (m 3 5)))))) := by
    intro n
    induction n with
    | zero =>
      intro hc m' c s L hw hm ha hc9 hs hT hL
      refine f_il 0 rfl hL rfl ?_
      refine f_bipush (n := 16) rfl (by decide) ?_
      refine f_ic rfl (by omega) (by decide) (fun _ => ?_) (fun c_9 => absurd (show (16 : Int) ≤ (c : Int) from (by omega)) c_9)
      have eT : s = shC m k h 16 0 := by rw [← hT]; show s = s + 0; omega
      refine f_il 1 rfl hL rfl ?_
      refine f_aln 3 rfl hL rfl ?_
      refine m_gfr so0 rfl hw rfl (by decide) ?_
      have t36' := t36 (m := m')
      rw [ha.n.1.2.1] at t36'
      refine m_k1 t36' hw hm rfl rfl rfl (m_ar so3 hw rfl) rfl (fun hc1 hw1 hm1 => ?_)
      refine m_k1 (t162 (n := m 3 5) (by omega)) hw1 hm1 rfl rfl rfl rfl rfl (fun hc2 hw2 hm2 => ?_)
      refine f_iln 6 rfl hL rfl ?_
      have fr := fa_r (m 3 5)
      obtain ⟨g1, g2⟩ := eG_ok (a := s) (b := fa (m 3 5)) hs.1 fr
      refine m_k1 (t165_1 (a := s) (b := fa (m 3 5)) (g := eG s (fa (m 3 5))) (by omega) (by omega) (by omega) (by omega) g1 g2) hw2 hm2 rfl rfl rfl rfl rfl (fun hc3 hw3 hm3 => ?_)
      exact f_ret1 rfl (by rw [eT])
    | succ n ih =>
      intro hc m' c s L hw hm ha hc9 hs hT hL
      refine f_il 0 rfl hL rfl ?_
      refine f_bipush (n := 16) rfl (by decide) ?_
      refine f_ic rfl (by omega) (by decide) (fun c_9 => absurd (show (16 : Int) ≤ (c : Int) from c_9) (by omega)) (fun _ => ?_)
      refine f_il 0 rfl hL rfl ?_
      refine f_il 2 rfl hL rfl ?_
      refine f_s [fi (-1), fi (iA ((iS (1) (m 3 5)) - 1) (iX (iS (1) (k)) (-1))), fi (c)] rfl rfl ?_
      refine b_ixor rfl ?_
      refine b_iand rfl ?_
      refine f_if rfl iA_r (fun c1 => ?_) (fun c1 => ?_)
      · have c1 : ¬ (iA (c) (iX (iA ((iS (1) (m 3 5)) - 1) (iX (iS (1) (k)) (-1))) (-1)) : Int) = (0 : Int) := c1
        refine f_inc 0 [(6, fi (c + 1)), (5, fi (s)), (4, fi (iA ((iS (1) (m 3 5)) - 1) (iX (iS (1) (k)) (-1)))), (0, .ref 0), (1, fi (k)), (2, fi (h)), (3, fi (1))] rfl (by decide) hL rfl rfl (fun L1 hL1 => ?_)
        refine f_goto rfl ?_
        have e9 : shC m k h (n + 1) c = 0 + shC m k h n (c + 1) := by
          show (if iA (c) (iX (iA ((iS (1) (m 3 5)) - 1) (iX (iS (1) (k)) (-1))) (-1)) = 0 then tmC m k h c else 0) + _ = _
          rw [if_neg c1]
        exact ih hc m' _ _ _ hw hm ha (by omega) (by omega) (by rw [← hT, e9]; omega) (hL1.sel [0, 1, 2, 3, 4, 5, 6] rfl)
      · have c1 : ¬ (¬ (iA (c) (iX (iA ((iS (1) (m 3 5)) - 1) (iX (iS (1) (k)) (-1))) (-1)) : Int) = (0 : Int)) := c1
        have c1 : iA (c) (iX (iA ((iS (1) (m 3 5)) - 1) (iX (iS (1) (k)) (-1))) (-1)) = 0 := Classical.byContradiction c1
        have r9 := tm_r (h := h) hn hk (by omega) c1
        obtain ⟨z1, z2⟩ := sh_c hn hk (by omega) c1
        obtain ⟨b1, -⟩ := (shK_m hn hk (c := c) (by omega)).2.2 z1 z2
        refine f_il 1 rfl hL rfl ?_
        refine f_aln 3 rfl hL rfl ?_
        refine f_iln 4 rfl hL rfl ?_
        refine f_il 0 rfl hL rfl ?_
        refine f_iln 5 rfl hL rfl ?_
        obtain ⟨m9, q9, t9⟩ := t161_x ha hn hp rk (c := c) (by omega) rh
        refine m_k1 t9 hw hm rfl rfl rfl (m_ar so0 hw rfl) rfl (fun hc4 hw4 hm4 => ?_)
        refine f_aln 3 rfl hL rfl ?_
        refine f_il 0 rfl hL rfl ?_
        refine m_k1 (t65 (x := c) (by omega)) hw4 hm4 rfl rfl rfl rfl rfl (fun hc5 hw5 hm5 => ?_)
        have t8 := t163 (m := m9) (a := bC c) (by rw [q9.n.1.2.1]; exact hn) (by rw [q9.n.1.2.1]; exact b1)
        rw [q9.n.1.2.1] at t8
        refine m_k1 t8 hw5 hm5 rfl rfl rfl (m_ar so0 hw5 rfl) rfl (fun hc6 hw6 hm6 => ?_)
        refine f_imul rfl ?_
        refine f_iadd rfl ?_
        refine f_ist [(5, fi (s + (((moC m h (iO (c) (iS (1) (k)))) - (moC m h c)) * ((fa (bC c)) * (fa (((m 3 5) - 1) - (bC c))))))), (6, fi (c)), (4, fi (iA ((iS (1) (m 3 5)) - 1) (iX (iS (1) (k)) (-1)))), (0, .ref 0), (1, fi (k)), (2, fi (h)), (3, fi (1))] rfl (by decide) hL rfl (fun L2 hL2 => ?_)
        refine f_inc 1 [(6, fi (c + 1)), (5, fi (s + (((moC m h (iO (c) (iS (1) (k)))) - (moC m h c)) * ((fa (bC c)) * (fa (((m 3 5) - 1) - (bC c))))))), (4, fi (iA ((iS (1) (m 3 5)) - 1) (iX (iS (1) (k)) (-1)))), (0, .ref 0), (1, fi (k)), (2, fi (h)), (3, fi (1))] rfl (by decide) hL2 rfl rfl (fun L3 hL3 => ?_)
        refine f_goto rfl ?_
        have e9 : shC m k h (n + 1) c = tmC m k h c + shC m k h n (c + 1) := by
          show (if iA (c) (iX (iA ((iS (1) (m 3 5)) - 1) (iX (iS (1) (k)) (-1))) (-1)) = 0 then tmC m k h c else 0) + _ = _
          rw [if_pos c1]
        exact ih hc6 m9 _ (s + tmC m k h c) _ hw6 hm6 q9 (by omega) (by omega) (by rw [← hT, e9]; omega) (hL3.sel [0, 1, 2, 3, 4, 5, 6] rfl)
  refine f_aln 0 rfl hL rfl ?_
  refine m_gfr so0 rfl hw rfl (by decide) ?_
  refine f_iln 1 rfl hL rfl ?_
  refine m_k1 (t40 hn.2 rk) hw hm rfl rfl rfl (m_ar so3 hw rfl) rfl (fun hc7 hw7 hm7 => ?_)
  refine f_if rfl (bI_r _) (fun _ => ?_) (fun c_9 => absurd (show ¬ (bI (decide (0 ≤ k ∧ k < m 3 5)) : Int) = (0 : Int) from (by rw [decide_eq_true hk]; decide)) c_9)
  refine f_iln 2 rfl hL rfl ?_
  refine m_k1 (t101h rh) hw7 hm7 rfl rfl rfl rfl rfl (fun hc8 hw8 hm8 => ?_)
  refine f_if rfl (bI_r _) (fun _ => ?_) (fun c_9 => absurd (show ¬ (bI (decide (0 ≤ h ∧ h < 10)) : Int) = (0 : Int) from (by rw [decide_eq_true hh]; decide)) c_9)
  refine f_s [fi (1)] rfl rfl ?_
  refine f_aln 0 rfl hL rfl ?_
  refine m_gfr so0 rfl hw8 rfl (by decide) ?_
  refine m_k1 t36 hw8 hm8 rfl rfl rfl (m_ar so3 hw8 rfl) rfl (fun hc9 hw9 hm9 => ?_)
  refine b_ishl rfl ?_
  refine f_s [fi (1), fi (iS (1) (m 3 5))] rfl rfl ?_
  refine f_isub rfl ?_
  refine f_s [fi (1), fi ((iS (1) (m 3 5)) - 1)] rfl rfl ?_
  refine f_iln 1 rfl hL rfl ?_
  refine b_ishl rfl ?_
  refine f_s [fi (-1), fi (iS (1) (k)), fi ((iS (1) (m 3 5)) - 1)] rfl rfl ?_
  refine b_ixor rfl ?_
  refine b_iand rfl ?_
  refine f_ist [(4, fi (iA ((iS (1) (m 3 5)) - 1) (iX (iS (1) (k)) (-1)))), (0, .ref 0), (1, fi (k)), (2, fi (h)), (3, fi (1))] rfl (by decide) hL rfl (fun L4 hL4 => ?_)
  refine f_s [fi (0)] rfl rfl ?_
  refine f_ist [(5, fi (0)), (4, fi (iA ((iS (1) (m 3 5)) - 1) (iX (iS (1) (k)) (-1)))), (0, .ref 0), (1, fi (k)), (2, fi (h)), (3, fi (1))] rfl (by decide) hL4 rfl (fun L5 hL5 => ?_)
  refine f_s [fi (0)] rfl rfl ?_
  refine f_ist [(6, fi (0)), (5, fi (0)), (4, fi (iA ((iS (1) (m 3 5)) - 1) (iX (iS (1) (k)) (-1)))), (0, .ref 0), (1, fi (k)), (2, fi (h)), (3, fi (1))] rfl (by decide) hL5 rfl (fun L6 hL6 => ?_)
  exact hK 16 hc9 m 0 0 _ hw9 hm9 (ag42.r m) (by decide) (by decide) (by omega) (hL6.sel [0, 1, 2, 3, 4, 5, 6] rfl))
