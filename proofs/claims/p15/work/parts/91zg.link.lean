/-! the loop over all ways finds the greatest and the first -/
def mnJ (N Y : Nat) : Nat → Int
  | 0 => 0
  | j + 1 => (if Y / (N + 1) ^ j % (N + 1) = 0 then 0 else 1) + mnJ N Y j
theorem mnJ_r (N Y : Nat) : ∀ j : Nat, 0 ≤ mnJ N Y j ∧ mnJ N Y j ≤ (j : Int)
  | 0 => ⟨Int.le_refl _, Int.le_refl _⟩
  | j + 1 => by
    have h := mnJ_r N Y j
    show 0 ≤ (if Y / (N + 1) ^ j % (N + 1) = 0 then (0 : Int) else 1) + mnJ N Y j ∧ (if Y / (N + 1) ^ j % (N + 1) = 0 then (0 : Int) else 1) + mnJ N Y j ≤ ((j + 1 : Nat) : Int)
    split <;> omega
def mlp (N P : Nat) (wb : Nat → Nat → Bool) (Rf : Nat → Int) : Nat → Nat → Int → Int → (Nat → Int) → Int × Int × (Nat → Int)
  | 0, _, mo, be, g => (mo, be, g)
  | f + 1, Y, mo, be, g => if (iw N Y wb Rf P 0 (z4 g)).1 = true ∧ mo < mnJ N Y P then mlp N P wb Rf f (Y + 1) (mnJ N Y P) (Y : Int) (iw N Y wb Rf P 0 (z4 g)).2 else mlp N P wb Rf f (Y + 1) mo be (iw N Y wb Rf P 0 (z4 g)).2
def wb4 (wb : Nat → Nat → Bool) (p : Nat) : B4 := (wb p 0, wb p 1, wb p 2, wb p 3)
theorem wb4_k (wb : Nat → Nat → Bool) (p : Nat) {k : Nat} (hk : k < 4) : bk (wb4 wb p) k = wb p k := by
  have : k = 0 ∨ k = 1 ∨ k = 2 ∨ k = 3 := by omega
  rcases this with rfl | rfl | rfl | rfl <;> rfl
def LsF (W : Nat → B4) : Nat → Nat → List B4
  | _, 0 => []
  | p, j + 1 => W p :: LsF W (p + 1) j
theorem LsF_len (W : Nat → B4) : ∀ (j p : Nat), (LsF W p j).length = j
  | 0, _ => rfl
  | j + 1, p => by show (LsF W (p + 1) j).length + 1 = j + 1; rw [LsF_len W j (p + 1)]
theorem LsF_in (W : Nat → B4) : ∀ (j p : Nat) (w : B4), w ∈ LsF W p j → ∃ q, p ≤ q ∧ q < p + j ∧ w = W q
  | 0, _, w, h => by cases h
  | j + 1, p, w, h => by
    rcases List.mem_cons.mp h with h | h
    · exact ⟨p, Nat.le_refl _, by omega, h⟩
    · obtain ⟨q, h1, h2, h3⟩ := LsF_in W j (p + 1) w h
      exact ⟨q, by omega, by omega, h3⟩
theorem iw_ok {N Y : Nat} (hN4 : N ≤ 4) {wb : Nat → Nat → Bool} {Rf : Nat → Int} : ∀ (j p : Nat) (g R : Nat → Int), (∀ k, k < 4 → R k = Rf k - g k) → (iw N Y wb Rf j p g).1 = okL (N + 1) (LsF (wb4 wb) p j) R Y
  | 0, _, _, _, _ => rfl
  | j + 1, p, g, R, h => by
    show (iwS wb Rf (fun g => iw N Y wb Rf j (p + 1) g) p g (Y / (N + 1) ^ j % (N + 1))).1 = okS (wb4 wb p) (fun R => okL (N + 1) (LsF (wb4 wb) (p + 1) j) R Y) R (Y / (N + 1) ^ (LsF (wb4 wb) (p + 1) j).length % (N + 1))
    rw [LsF_len]
    have d1 : Y / (N + 1) ^ j % (N + 1) < N + 1 := Nat.mod_lt _ (by omega)
    cases hd : Y / (N + 1) ^ j % (N + 1) with
    | zero => exact iw_ok hN4 j (p + 1) g R h
    | succ k =>
      have hk : k < 4 := by omega
      show (if wb p k = true ∧ g k + 1 ≤ Rf k then iw N Y wb Rf j (p + 1) (up1 g k (g k + 1)) else (false, up1 g k (g k + 1))).1 = (bk (wb4 wb p) k && (decide (0 < R k) && okL (N + 1) (LsF (wb4 wb) (p + 1) j) (dcr R k) Y))
      rw [wb4_k wb p hk]
      have e := h k hk
      by_cases c : wb p k = true ∧ g k + 1 ≤ Rf k
      · rw [if_pos c, c.1, decide_eq_true (show 0 < R k by omega), Bool.true_and, Bool.true_and]
        refine iw_ok hN4 j (p + 1) _ _ (fun i hi => ?_)
        show (if i = k then R i - 1 else R i) = Rf i - (if i = k then g k + 1 else g i)
        have := h i hi
        split
        · rename_i q; subst q; omega
        · exact this
      · rw [if_neg c]
        cases hb : wb p k with
        | false => rfl
        | true =>
          rw [decide_eq_false (show ¬ 0 < R k from fun z => c ⟨hb, by omega⟩)]
          rfl
theorem mnJ_L {N Y : Nat} (W : Nat → B4) : ∀ (j p : Nat), mnJ N Y j = mnL (fun _ => 1) (N + 1) (LsF W p j) Y
  | 0, _ => rfl
  | j + 1, p => by
    show (if Y / (N + 1) ^ j % (N + 1) = 0 then (0 : Int) else 1) + mnJ N Y j = vd (fun _ => 1) (Y / (N + 1) ^ (LsF W (p + 1) j).length % (N + 1)) + mnL (fun _ => 1) (N + 1) (LsF W (p + 1) j) Y
    rw [LsF_len, mnJ_L W j (p + 1)]
    cases Y / (N + 1) ^ j % (N + 1) with
    | zero => rfl
    | succ k => rfl
theorem okL_0 (b : Nat) : ∀ (l : List B4) (R : Nat → Int), okL b l R 0 = true
  | [], _ => rfl
  | w :: ws, R => by
    show okS w (fun R => okL b ws R 0) R (0 / b ^ ws.length % b) = true
    rw [Nat.zero_div, Nat.zero_mod]
    exact okL_0 b ws R
section ML
variable {N P : Nat} {wb : Nat → Nat → Bool} {Rf : Nat → Int}
def mlI (N P : Nat) (wb : Nat → Nat → Bool) (Rf : Nat → Int) (Y : Nat) (mo be : Int) : Prop := (∀ y, y < Y → okL (N + 1) (LsF (wb4 wb) 0 P) Rf y = true → mnL (fun _ => 1) (N + 1) (LsF (wb4 wb) 0 P) y ≤ mo) ∧ ((mo = -9 ∧ ∀ y, y < Y → ¬ okL (N + 1) (LsF (wb4 wb) 0 P) Rf y = true) ∨ ∃ n : Nat, be = (n : Int) ∧ n < Y ∧ okL (N + 1) (LsF (wb4 wb) 0 P) Rf n = true ∧ mnL (fun _ => 1) (N + 1) (LsF (wb4 wb) 0 P) n = mo ∧ ∀ y, y < n → okL (N + 1) (LsF (wb4 wb) 0 P) Rf y = true → mnL (fun _ => 1) (N + 1) (LsF (wb4 wb) 0 P) y < mo)
theorem mlp_I (hN4 : N ≤ 4) : ∀ (f Y : Nat) (mo be : Int) (g : Nat → Int), mlI N P wb Rf Y mo be → mlI N P wb Rf (Y + f) (mlp N P wb Rf f Y mo be g).1 (mlp N P wb Rf f Y mo be g).2.1
  | 0, Y, mo, be, g, h => h
  | f + 1, Y, mo, be, g, h => by
    have eo : (iw N Y wb Rf P 0 (z4 g)).1 = okL (N + 1) (LsF (wb4 wb) 0 P) Rf Y := iw_ok hN4 P 0 (z4 g) Rf (fun k hk => by rw [z4_0 g hk]; omega)
    have em : mnJ N Y P = mnL (fun _ => 1) (N + 1) (LsF (wb4 wb) 0 P) Y := mnJ_L (wb4 wb) P 0
    have rm0 := mnJ_r N Y P
    obtain ⟨h1, h2⟩ := h
    have e2 : Y + (f + 1) = (Y + 1) + f := by omega
    rw [e2]
    by_cases c : (iw N Y wb Rf P 0 (z4 g)).1 = true ∧ mo < mnJ N Y P
    · have e : mlp N P wb Rf (f + 1) Y mo be g = mlp N P wb Rf f (Y + 1) (mnJ N Y P) (Y : Int) (iw N Y wb Rf P 0 (z4 g)).2 := if_pos c
      rw [e]
      refine mlp_I hN4 f (Y + 1) _ _ _ ⟨fun y hy ho => ?_, Or.inr ⟨Y, rfl, by omega, by rw [← eo]; exact c.1, em.symm, fun y hy ho => ?_⟩⟩
      · by_cases c2 : y < Y
        · have := h1 y c2 ho; have := c.2; omega
        · have : y = Y := by omega
          subst this
          omega
      · have := h1 y hy ho; have := c.2; omega
    · have e : mlp N P wb Rf (f + 1) Y mo be g = mlp N P wb Rf f (Y + 1) mo be (iw N Y wb Rf P 0 (z4 g)).2 := if_neg c
      rw [e]
      have no : okL (N + 1) (LsF (wb4 wb) 0 P) Rf Y = true → mnL (fun _ => 1) (N + 1) (LsF (wb4 wb) 0 P) Y ≤ mo := fun ho => by
        by_cases c2 : mo < mnJ N Y P
        · exact absurd ⟨by rw [eo]; exact ho, c2⟩ c
        · omega
      refine mlp_I hN4 f (Y + 1) _ _ _ ⟨fun y hy ho => ?_, ?_⟩
      · by_cases c2 : y < Y
        · exact h1 y c2 ho
        · have : y = Y := by omega
          subst this
          exact no ho
      · rcases h2 with ⟨a1, a2⟩ | ⟨n, a1, a2, a3⟩
        · refine Or.inl ⟨a1, fun y hy ho => ?_⟩
          by_cases c2 : y < Y
          · exact a2 y c2 ho
          · have : y = Y := by omega
            subst this
            have := no ho
            omega
        · exact Or.inr ⟨n, a1, by omega, a3⟩
theorem mlp_is (hN4 : N ≤ 4) (hb : ∀ p, p < P → ∀ k, wb p k = true → k < 4 → k < N) (be : Int) (g : Nat → Int) : (mlp N P wb Rf ((N + 1) ^ P) 0 (-9) be g).1 = hg (fun _ => 1) (LsF (wb4 wb) 0 P) Rf ∧ (mlp N P wb Rf ((N + 1) ^ P) 0 (-9) be g).2.1 = ((gn (fun _ => 1) (N + 1) (LsF (wb4 wb) 0 P) Rf : Nat) : Int) := by
  have hI := mlp_I (P := P) (wb := wb) (Rf := Rf) hN4 ((N + 1) ^ P) 0 (-9) be g ⟨fun y hy => absurd hy (Nat.not_lt_zero y), Or.inl ⟨rfl, fun y hy => absurd hy (Nat.not_lt_zero y)⟩⟩
  rw [Nat.zero_add] at hI
  obtain ⟨h1, h2⟩ := hI
  have hT : 0 < (N + 1) ^ P := Nat.pow_pos (by omega)
  have hl : (LsF (wb4 wb) 0 P).length = P := LsF_len _ _ _
  rcases h2 with ⟨-, a2⟩ | ⟨n, a1, a2, a3, a4, a5⟩
  · exact absurd (okL_0 _ _ _) (a2 0 hT)
  · have := best_is (fun _ => 1) (b := N + 1) (by omega) (l := LsF (wb4 wb) 0 P) (R := Rf) (fun w hw k hk => by
      obtain ⟨q, -, q2, rfl⟩ := LsF_in _ _ _ _ hw
      have k4 := bk_lt hk
      rw [wb4_k wb q k4] at hk
      have := hb q (by omega) k hk k4
      omega) (mo := (mlp N P wb Rf ((N + 1) ^ P) 0 (-9) be g).1) (be := n) (by rw [hl]; exact a2) a3 a4 (fun y hy => h1 y (by rw [hl] at hy; exact hy)) a5
    exact ⟨this.1, by rw [a1, this.2]⟩
end ML
theorem dcr_congr {S : Nat → Prop} {R R' : Nat → Int} (h : ∀ k, S k → R k = R' k) (j : Nat) : ∀ k, S k → dcr R j k = dcr R' j k := fun k hk => by
  show (if k = j then R k - 1 else R k) = (if k = j then R' k - 1 else R' k)
  rw [h k hk]
theorem hk_congr {S : Nat → Prop} (v : Nat → Int) {w : B4} (hw : ∀ k, bk w k = true → S k) {g : (Nat → Int) → Int} (hg9 : ∀ {R R' : Nat → Int}, (∀ k, S k → R k = R' k) → g R = g R') {R R' : Nat → Int} (h : ∀ k, S k → R k = R' k) (k : Nat) : hk v w g R k = hk v w g R' k := by
  unfold hk
  by_cases c : bk w k = true
  · rw [h k (hw k c), hg9 h, hg9 (dcr_congr h k)]
  · rw [if_neg (fun z => c z.1), if_neg (fun z => c z.1), hg9 h]
theorem hg_congr {S : Nat → Prop} (v : Nat → Int) : ∀ (l : List B4) {R R' : Nat → Int}, (∀ w ∈ l, ∀ k, bk w k = true → S k) → (∀ k, S k → R k = R' k) → hg v l R = hg v l R'
  | [], _, _, _, _ => rfl
  | w :: ws, R, R', hl, h => by
    have i := fun {R R' : Nat → Int} (h : ∀ k, S k → R k = R' k) => hg_congr v ws (fun w' hw' => hl w' (List.mem_cons_of_mem _ hw')) h
    have e := fun k => hk_congr v (hl w (List.mem_cons_self ..)) i h k
    rw [hg_s, hg_s, i h, e 0, e 1, e 2, e 3]
theorem gd_congr {S : Nat → Prop} (v : Nat → Int) (w : B4) (ws : List B4) {R R' : Nat → Int} (hl : ∀ w' ∈ w :: ws, ∀ k, bk w' k = true → S k) (h : ∀ k, S k → R k = R' k) : gd v w ws R = gd v w ws R' := by
  have i := fun {R R' : Nat → Int} (h : ∀ k, S k → R k = R' k) => hg_congr v ws (fun w' hw' => hl w' (List.mem_cons_of_mem _ hw')) h
  have e : ∀ k, gcB v w ws R k = gcB v w ws R' k := fun k => by
    unfold gcB
    by_cases c : bk w k = true
    · rw [h k (hl w (List.mem_cons_self ..) k c), i (dcr_congr h k), hg_congr v (w :: ws) hl h]
    · rw [Bool.not_eq_true] at c
      rw [c]
      rfl
  unfold gd
  rw [e 0, e 1, e 2, e 3, i h, hg_congr v (w :: ws) hl h]
theorem Rd_congr {S : Nat → Prop} {R R' : Nat → Int} (h : ∀ k, S k → R k = R' k) (d : Nat) : ∀ k, S k → Rd R d k = Rd R' d k := by
  cases d with
  | zero => exact h
  | succ j => exact dcr_congr h j
theorem fwL_congr {S : Nat → Prop} (v : Nat → Int) : ∀ (l : List B4) {R R' : Nat → Int} (a : Int), (∀ w ∈ l, ∀ k, bk w k = true → S k) → (∀ k, S k → R k = R' k) → fwL v l R a = fwL v l R' a
  | [], _, _, _, _, _ => rfl
  | w :: ws, R, R', a, hl, h => by
    show fwL v ws (Rd R (gd v w ws R)) (10 * a + (gd v w ws R : Int)) = fwL v ws (Rd R' (gd v w ws R')) (10 * a + (gd v w ws R' : Int))
    rw [gd_congr v w ws hl h]
    exact fwL_congr v ws _ (fun w' hw' => hl w' (List.mem_cons_of_mem _ hw')) (Rd_congr h _)
