/-! single bits of 32; what people want is alike; the first way of the class -/
theorem tB_bit {k : Int} {n : Nat} (hk : ((Int32.ofInt k &&& 31).toBitVec.smod 32).toNat = n) (hn : n < 32) (x : Int) : tB x k = (Int32.ofInt x).toBitVec.getLsbD n := by
  have e1 : iA (iR x k) 1 = ((Int32.ofInt x >>> (Int32.ofInt k &&& 31)) &&& Int32.ofInt 1).toInt := by
    unfold iA iR
    rw [Int32.ofInt_toInt]
  have e2 : ((Int32.ofInt x >>> (Int32.ofInt k &&& 31)) &&& Int32.ofInt 1).toInt = (((Int32.ofInt x).toBitVec.sshiftRight' ((Int32.ofInt k &&& 31).toBitVec.smod 32)) &&& 1#32).toInt := rfl
  have e3 : ((Int32.ofInt x).toBitVec.sshiftRight' ((Int32.ofInt k &&& 31).toBitVec.smod 32)).getLsbD 0 = (Int32.ofInt x).toBitVec.getLsbD n := by
    rw [BitVec.sshiftRight_eq', hk, BitVec.getLsbD_sshiftRight, Nat.add_zero, if_pos hn, decide_eq_false (by decide)]
    rfl
  unfold tB
  rw [e1, e2, BitVec.and_one_eq_setWidth_ofBool_getLsbD, e3]
  cases (Int32.ofInt x).toBitVec.getLsbD n <;> decide
theorem k_0 : ((Int32.ofInt 0 &&& 31).toBitVec.smod 32).toNat = 0 := by decide +kernel
theorem k_1 : ((Int32.ofInt 1 &&& 31).toBitVec.smod 32).toNat = 1 := by decide +kernel
theorem k_2 : ((Int32.ofInt 2 &&& 31).toBitVec.smod 32).toNat = 2 := by decide +kernel
theorem k_3 : ((Int32.ofInt 3 &&& 31).toBitVec.smod 32).toNat = 3 := by decide +kernel
theorem k_k {k : Nat} (h : k < 4) : ((Int32.ofInt (k : Int) &&& 31).toBitVec.smod 32).toNat = k := by
  have : k = 0 ∨ k = 1 ∨ k = 2 ∨ k = 3 := by omega
  rcases this with rfl | rfl | rfl | rfl
  · exact k_0
  · exact k_1
  · exact k_2
  · exact k_3
theorem tB_and (x y : Int) {k : Nat} (h : k < 4) : tB (iA x y) (k : Int) = (tB x (k : Int) && tB y (k : Int)) := by
  rw [tB_bit (k_k h) (by omega), tB_bit (k_k h) (by omega), tB_bit (k_k h) (by omega)]
  have e : (Int32.ofInt (iA x y)).toBitVec = (Int32.ofInt x).toBitVec &&& (Int32.ofInt y).toBitVec := by
    unfold iA
    rw [Int32.ofInt_toInt]
    rfl
  rw [e, BitVec.getLsbD_and]
theorem tB_not (x : Int) {k : Nat} (h : k < 4) : tB (iX x (-1)) (k : Int) = !tB x (k : Int) := by
  rw [tB_bit (k_k h) (by omega), tB_bit (k_k h) (by omega)]
  have e : (Int32.ofInt (iX x (-1))).toBitVec = (Int32.ofInt x).toBitVec ^^^ BitVec.allOnes 32 := by
    unfold iX
    rw [Int32.ofInt_toInt]
    rfl
  rw [e, BitVec.getLsbD_xor, BitVec.getLsbD_allOnes, decide_eq_true (show k < 32 by omega), Bool.xor_true]
theorem tB_15 {k : Nat} (h : k < 4) : tB 15 (k : Int) = true := by
  have : k = 0 ∨ k = 1 ∨ k = 2 ∨ k = 3 := by omega
  rcases this with rfl | rfl | rfl | rfl <;> decide +kernel
theorem tB_0 {k : Nat} (h : k < 4) : tB 0 (k : Int) = false := by
  have : k = 0 ∨ k = 1 ∨ k = 2 ∨ k = 3 := by omega
  rcases this with rfl | rfl | rfl | rfl <;> decide +kernel
theorem b4_k (x : Int) {k : Nat} (h : k < 4) : bk (b4 x) k = tB x (k : Int) := by
  have : k = 0 ∨ k = 1 ∨ k = 2 ∨ k = 3 := by omega
  rcases this with rfl | rfl | rfl | rfl <;> rfl
theorem tB_mask {N k : Nat} (hN : N ≤ 4) (h : k < 4) : tB (iS 1 (N : Int) - 1) (k : Int) = decide (k < N) := by
  have key : ∀ N : Fin 5, ∀ k : Fin 4, tB (iS 1 ((N.val : Nat) : Int) - 1) ((k.val : Nat) : Int) = decide (k.val < N.val) := by decide +kernel
  exact key ⟨N, by omega⟩ ⟨k, h⟩
theorem B4_ext {U V : B4} (h : ∀ k, k < 4 → bk U k = bk V k) : U = V := by
  obtain ⟨a, b, c, d⟩ := U
  obtain ⟨a', b', c', d'⟩ := V
  have h0 : a = a' := h 0 (by decide)
  have h1 : b = b' := h 1 (by decide)
  have h2 : c = c' := h 2 (by decide)
  have h3 : d = d' := h 3 (by decide)
  rw [h0, h1, h2, h3]
theorem iA_15 {x y : Int} (hy : 0 ≤ y ∧ y ≤ 15) : 0 ≤ iA x y ∧ iA x y ≤ 15 := by
  have e : (Int32.ofInt y).toInt = y := x_i32 (by omega) (by omega)
  have := x_andle (x := Int32.ofInt x) (y := Int32.ofInt y) (by rw [e]; exact hy.1)
  rw [e] at this
  show 0 ≤ (Int32.ofInt x &&& Int32.ofInt y).toInt ∧ (Int32.ofInt x &&& Int32.ofInt y).toInt ≤ 15
  omega
theorem iA_comm (x y : Int) : iA x y = iA y x := by
  unfold iA
  rw [show Int32.ofInt x &&& Int32.ofInt y = Int32.ofInt y &&& Int32.ofInt x from Int32.toBitVec_inj.mp (BitVec.and_comm _ _)]
theorem msk_15 {N : Int} (h : 0 ≤ N ∧ N ≤ 4) : 0 ≤ iS 1 N - 1 ∧ iS 1 N - 1 ≤ 15 := by
  have key : ∀ N : Fin 5, 0 ≤ iS 1 ((N.val : Nat) : Int) - 1 ∧ iS 1 ((N.val : Nat) : Int) - 1 ≤ 15 := by decide +kernel
  have := key ⟨N.toNat, by omega⟩
  rw [show ((N.toNat : Nat) : Int) = N by omega] at this
  exact this
theorem fsC_15 {m : Nat → Nat → Int} (hn : 0 ≤ m 3 5 ∧ m 3 5 ≤ 4) (x : Int) : 0 ≤ fsC m x ∧ fsC m x ≤ 15 := by
  unfold fsC ft
  split
  · decide
  · split
    · exact iA_15 (msk_15 hn)
    · decide
theorem wnt_15 {m : Nat → Nat → Int} (hn : 0 ≤ m 3 5 ∧ m 3 5 ≤ 4) (h s x : Int) : 0 ≤ wnt m h s x ∧ wnt m h s x ≤ 15 := by
  unfold wnt
  split
  · rw [iA_comm]; exact iA_15 (fsC_15 hn x)
  · decide
/-- what a person wants is alike -/
theorem want_eq {m : Nat → Nat → Int} (hP : PR m) (hR : SR0 m) {N : Nat} (hN : m 3 5 = (N : Int)) {h s s' : Int} (hs : ∀ k : Nat, k < 4 → tB s' (k : Int) = (decide (k < N) && (tB s (k : Int) && !tB (m 9 4) (k : Int)))) {p : Nat} (hp5 : p < 5) (hp : (p : Int) < m 3 6) : b4 (wnt m h s (p : Int)) = wb4 (wb0 m h s') p := by
  have N4 : N ≤ 4 := by have := hP.2.1.1; omega
  have q := hP.2.2.2 p hp5 hp
  refine B4_ext (fun k hk => ?_)
  rw [b4_k _ hk, wb4_k _ _ hk]
  have ez : iA (iR s' (k : Int)) 1 = 1 ↔ tB s' (k : Int) = true := ⟨fun z => decide_eq_true z, fun z => of_decide_eq_true z⟩
  have ef : iA (iR (m 60 p) (k : Int)) 1 = 1 ↔ tB (m 60 p) (k : Int) = true := ⟨fun z => decide_eq_true z, fun z => of_decide_eq_true z⟩
  have e60 : tB (m 60 p) (k : Int) = (tB (m 8 p) (k : Int) && decide (k < N)) := by
    rw [q.2.2, tB_and _ _ hk, hN, tB_mask N4 hk]
  have hx : 0 ≤ (p : Int) ∧ (p : Int) < m 3 6 := ⟨by omega, hp⟩
  by_cases c : (((0 ≤ (p : Int) ∧ (p : Int) < m 3 6) ∧ m 6 ((p : Int)).toNat ≤ h ∧ h ≤ m 7 ((p : Int)).toNat) ∧ ¬ ((0 ≤ (p : Int) ∧ (p : Int) < m 3 6) ∧ iA (iR (m 9 5) ((p : Int))) (1) = 1))
  · have c2 : ¬ iA (iR (m 61 16) (p : Int)) (1) = 1 ∧ m 58 p ≤ h ∧ h ≤ m 59 p := by
      rw [← hR.g.2.1, ← q.1, ← q.2.1]
      exact ⟨fun z => c.2 ⟨hx, z⟩, c.1.2⟩
    have e1 : wnt m h s (p : Int) = iA (fsC m (p : Int)) (iA s (iX (m 9 4) (-1))) := if_pos c
    have e2 : fsC m (p : Int) = m 60 p := (if_neg c.2).trans (ft_eq hP hx)
    rw [e1, e2, tB_and _ _ hk, tB_and _ _ hk, tB_not _ hk, e60]
    have eR : wb0 m h s' p k = (tB s' (k : Int) && tB (m 60 p) (k : Int)) := by
      unfold wb0
      refine Bool.eq_iff_iff.mpr ?_
      rw [decide_eq_true_iff, Bool.and_eq_true]
      exact ⟨fun z => ⟨ez.mp z.2.1, ef.mp z.2.2⟩, fun z => ⟨c2, ez.mpr z.1, ef.mpr z.2⟩⟩
    rw [eR, hs k hk, e60]
    cases decide (k < N) <;> cases tB (m 8 p) (k : Int) <;> cases tB s (k : Int) <;> cases tB (m 9 4) (k : Int) <;> rfl
  · have e1 : wnt m h s (p : Int) = 0 := if_neg c
    rw [e1, tB_0 hk]
    refine (decide_eq_false (fun z => c ⟨⟨hx, ?_⟩, fun y => ?_⟩)).symm
    · have := z.1.2; rw [← q.1, ← q.2.1] at this; exact this
    · exact z.1.1 (by rw [← hR.g.2.1]; exact y.2)
theorem want_no {m : Nat → Nat → Int} {h s : Int} {p : Nat} (hp : ¬ (p : Int) < m 3 6) : b4 (wnt m h s (p : Int)) = (false, false, false, false) := by
  have e1 : wnt m h s (p : Int) = 0 := if_neg (fun c => hp c.1.1.2)
  rw [e1]
  exact b4_0
theorem LsF_app (W : Nat → B4) : ∀ (j p e : Nat), LsF W p (j + e) = LsF W p j ++ LsF W (p + j) e
  | 0, p, e => by rw [Nat.zero_add]; rfl
  | j + 1, p, e => by
    rw [show j + 1 + e = (j + e) + 1 by omega]
    show W p :: LsF W (p + 1) (j + e) = W p :: (LsF W (p + 1) j ++ LsF W (p + (j + 1)) e)
    rw [LsF_app W j (p + 1) e, show p + 1 + j = p + (j + 1) by omega]
theorem LsF_congr {W W' : Nat → B4} : ∀ (j p : Nat), (∀ q, p ≤ q → q < p + j → W q = W' q) → LsF W p j = LsF W' p j
  | 0, _, _ => rfl
  | j + 1, p, h => by
    show W p :: LsF W (p + 1) j = W' p :: LsF W' (p + 1) j
    rw [h p (Nat.le_refl _) (by omega), LsF_congr j (p + 1) (fun q h1 h2 => h q (by omega) (by omega))]
theorem LsF_no {W : Nat → B4} : ∀ (j p : Nat), (∀ q, p ≤ q → q < p + j → W q = (false, false, false, false)) → LsF W p j = List.replicate j (false, false, false, false)
  | 0, _, _ => rfl
  | j + 1, p, h => by
    show W p :: LsF W (p + 1) j = (false, false, false, false) :: List.replicate j (false, false, false, false)
    rw [h p (Nat.le_refl _) (by omega), LsF_no j (p + 1) (fun q h1 h2 => h q (by omega) (by omega))]
theorem LsW_F (W : Nat → B4) : ∀ n, n ≤ 5 → LsW W n = LsF W (5 - n) n
  | 0, _ => rfl
  | n + 1, h => by
    show W (4 - n) :: LsW W n = W (5 - (n + 1)) :: LsF W (5 - (n + 1) + 1) n
    rw [LsW_F W n (by omega), show 4 - n = 5 - (n + 1) by omega, show 5 - (n + 1) + 1 = 5 - n by omega]
/-- the class's people from p on, and those that there are -/
theorem LsW_es (W : Nat → B4) {p j : Nat} (hpj : p + j ≤ 5) (hno : ∀ q, p + j ≤ q → q < 5 → W q = (false, false, false, false)) : ∃ es : List B4, LsW W (5 - p) = LsF W p j ++ es ∧ hg (fun _ => 1) es = hg (fun _ => 1) [] := by
  refine ⟨List.replicate (5 - p - j) (false, false, false, false), ?_, hg_es _ _⟩
  rw [LsW_F W (5 - p) (by omega), show 5 - (5 - p) = p by omega, show 5 - p = j + (5 - p - j) by omega, LsF_app, LsF_no (5 - p - j) (p + j) (fun q h1 h2 => hno q h1 (by omega)), show j + (5 - p - j) - j = 5 - p - j by omega]
theorem gg_F (W : Nat → B4) {p j : Nat} (hpj : p + j ≤ 5) (hno : ∀ q, p + j ≤ q → q < 5 → W q = (false, false, false, false)) : gg W (5 - p) = hg (fun _ => 1) (LsF W p j) := by
  obtain ⟨es, e1, e2⟩ := LsW_es W hpj hno
  rw [gg_hg, e1, hg_app _ e2]
theorem gv_gd (W : Nat → B4) {p j : Nat} (hpj : p + (j + 1) ≤ 5) (hno : ∀ q, p + (j + 1) ≤ q → q < 5 → W q = (false, false, false, false)) {R : Nat → Int} {t : Int} (ht : t = hg (fun _ => 1) (LsF W p (j + 1)) R) : gvF W (4 - p) R t = gd (fun _ => 1) (W p) (LsF W (p + 1) j) R := by
  have e1 : gg W (4 - p) = hg (fun _ => 1) (LsF W (p + 1) j) := by
    have := gg_F W (p := p + 1) (j := j) (by omega) (fun q h1 h2 => hno q (by omega) h2)
    rw [show 5 - (p + 1) = 4 - p by omega] at this
    exact this
  have e2 : 4 - (4 - p) = p := by omega
  have ht : t = hg (fun _ => 1) (W p :: LsF W (p + 1) j) R := ht
  have l0 := hg_0 (fun _ => 1) (W p) (LsF W (p + 1) j) R
  have c : ∀ k, gvC W (4 - p) R t k = gcB (fun _ => 1) (W p) (LsF W (p + 1) j) R k := fun k => by
    unfold gvC gcB
    rw [e1, e2]
    by_cases c1 : bk (W p) k = true
    · by_cases c2 : 0 < R k
      · have l1 := hg_k (fun _ => 1) (W p) (LsF W (p + 1) j) R c1 c2
        have l1 : 1 + hg (fun _ => 1) (LsF W (p + 1) j) (dcr R k) ≤ hg (fun _ => 1) (W p :: LsF W (p + 1) j) R := l1
        rw [c1, decide_eq_true c2, Bool.true_and, Bool.true_and, Bool.true_and, Bool.true_and]
        refine decide_eq_decide.mpr ⟨fun z => ?_, fun z => ?_⟩
        · show 1 + hg (fun _ => 1) (LsF W (p + 1) j) (dcr R k) = _; omega
        · have z : 1 + hg (fun _ => 1) (LsF W (p + 1) j) (dcr R k) = hg (fun _ => 1) (W p :: LsF W (p + 1) j) R := z
          omega
      · rw [decide_eq_false c2, Bool.false_and, Bool.false_and]
    · rw [Bool.not_eq_true] at c1
      rw [c1, Bool.false_and, Bool.false_and]
  unfold gvF gv0 gv1 gv2 gv3 gv4 gd
  rw [c 0, c 1, c 2, c 3, e1]
  by_cases c0 : t ≤ hg (fun _ => 1) (LsF W (p + 1) j) R
  · rw [if_pos c0, if_pos (by omega)]
  · rw [if_neg c0, if_neg (show ¬ hg (fun _ => 1) (LsF W (p + 1) j) R = hg (fun _ => 1) (W p :: LsF W (p + 1) j) R by omega)]
theorem fwC_L (W : Nat → B4) : ∀ (j p : Nat) (R : Nat → Int) (t a : Int), p + j ≤ 5 → (∀ q, p + j ≤ q → q < 5 → W q = (false, false, false, false)) → t = hg (fun _ => 1) (LsF W p j) R → (fwC W j p R t a).1 = fwL (fun _ => 1) (LsF W p j) R a
  | 0, _, _, _, _, _, _, _ => rfl
  | j + 1, p, R, t, a, h1, h2, h3 => by
    have e := gv_gd W h1 h2 h3
    show (fwC W j (p + 1) (Rd R (gvF W (4 - p) R t)) (t - (if gvF W (4 - p) R t = 0 then 0 else 1)) (10 * a + (gvF W (4 - p) R t : Int))).1 = fwL (fun _ => 1) (LsF W (p + 1) j) (Rd R (gd (fun _ => 1) (W p) (LsF W (p + 1) j) R)) (10 * a + (gd (fun _ => 1) (W p) (LsF W (p + 1) j) R : Int))
    rw [e]
    refine fwC_L W j (p + 1) _ _ _ (by omega) (fun q a b => h2 q (by omega) b) ?_
    have h3 : t = hg (fun _ => 1) (W p :: LsF W (p + 1) j) R := h3
    rcases gd_c (fun _ => 1) (W p) (LsF W (p + 1) j) R with ⟨g1, g2⟩ | ⟨k, g1, g2, -⟩
    · rw [g1, if_pos rfl]
      show t - 0 = hg (fun _ => 1) (LsF W (p + 1) j) R
      omega
    · have := (gcB_t g2).2.2
      rw [g1, if_neg (by omega)]
      show t - 1 = hg (fun _ => 1) (LsF W (p + 1) j) (dcr R k)
      have this : 1 + hg (fun _ => 1) (LsF W (p + 1) j) (dcr R k) = hg (fun _ => 1) (W p :: LsF W (p + 1) j) R := this
      omega
