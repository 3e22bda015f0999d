/-! plans, scenes, rows of acts and slots are alike -/
def AR (m : Nat → Nat → Int) : Prop := m 17 2 = m 55 16 ∧ ((0 ≤ m 17 1 ∧ m 17 1 ≤ 13) ∧ (0 ≤ m 17 2 ∧ m 17 2 ≤ 14) ∧ (0 ≤ m 55 17 ∧ m 55 17 ≤ 13)) ∧ ∀ i : Nat, (i : Int) < m 17 2 → sR (m 3 5) (m 3 6) (m (19 + ((m 17 1 + i) % 14).toNat)) (fun k => m 65 (18 * ((m 55 17 + 14 - m 55 16 + i) % 14).toNat + k))
def KR (m : Nat → Nat → Int) : Prop := ∀ s : Nat, s < 2 → m 37 s = m 70 s ∧ (¬ m 37 s = 0 → sR (m 3 5) (m 3 6) (m (35 + s)) (fun k => m 71 (18 * s + k)))
def SI (m : Nat → Nat → Int) : Prop := PR m ∧ SR0 m ∧ AR m ∧ KR m
def SI_FP : yMd := [(3, 5, 6), (4, 0, 3), (5, 0, 3), (6, 0, 4), (7, 0, 4), (8, 0, 4), (9, 4, 6), (10, 0, 4), (11, 0, 4), (12, 0, 4), (17, 1, 2), (19, 0, 17), (20, 0, 17), (21, 0, 17), (22, 0, 17), (23, 0, 17), (24, 0, 17), (25, 0, 17), (26, 0, 17), (27, 0, 17), (28, 0, 17), (29, 0, 17), (30, 0, 17), (31, 0, 17), (32, 0, 17), (35, 0, 17), (36, 0, 17), (37, 0, 1), (55, 0, 1), (55, 16, 17), (56, 0, 3), (57, 0, 3), (58, 0, 4), (59, 0, 4), (60, 0, 4), (61, 0, 17), (65, 0, 251), (70, 0, 1), (71, 0, 35)]
theorem PR_congr {m m' : Nat → Nat → Int} (h : PR m) (e : ∀ q i, ((q = 3 ∧ (i = 5 ∨ i = 6)) ∨ (4 ≤ q ∧ q ≤ 5 ∧ i < 4) ∨ (6 ≤ q ∧ q ≤ 8 ∧ i < 5) ∨ (q = 55 ∧ i < 2) ∨ (56 ≤ q ∧ q ≤ 57 ∧ i < 4) ∨ (58 ≤ q ∧ q ≤ 60 ∧ i < 5)) → m' q i = m q i) : PR m' := by
  obtain ⟨h1, h2, h3, h4⟩ := h
  have e35 : m' 3 5 = m 3 5 := e 3 5 (by omega)
  have e36 : m' 3 6 = m 3 6 := e 3 6 (by omega)
  refine ⟨⟨by rw [e35, e 55 0 (by omega)]; exact h1.1, by rw [e36, e 55 1 (by omega)]; exact h1.2⟩, by rw [e35, e36]; exact h2, fun k hk hk2 => ?_, fun p hp hp2 => ?_⟩
  · rw [e35] at hk2
    rw [e 4 k (by omega), e 5 k (by omega), e 56 k (by omega), e 57 k (by omega)]
    exact h3 k hk hk2
  · rw [e36] at hp2
    rw [e35, e 6 p (by omega), e 7 p (by omega), e 8 p (by omega), e 58 p (by omega), e 59 p (by omega), e 60 p (by omega)]
    exact h4 p hp hp2
theorem KR_congr {m m' : Nat → Nat → Int} (h : KR m) (e5 : m' 3 5 = m 3 5) (e6 : m' 3 6 = m 3 6) (e : ∀ q i, (35 ≤ q ∧ q ≤ 37) ∨ (70 ≤ q ∧ q ≤ 71) → (q ≤ 36 → i < 18) → (q = 37 → i < 2) → (q = 70 → i < 2) → (q = 71 → i < 36) → m' q i = m q i) : KR m' := fun s hs => by
  obtain ⟨h1, h2⟩ := h s hs
  rw [e 37 s (by omega) (by omega) (by omega) (by omega) (by omega), e 70 s (by omega) (by omega) (by omega) (by omega) (by omega)]
  refine ⟨h1, fun hn => sR_congr (h2 hn) e5 e6 (fun k hk => e (35 + s) k (by omega) (by omega) (by omega) (by omega) (by omega)) (fun k hk => e 71 (18 * s + k) (by omega) (by omega) (by omega) (by omega) (by omega))⟩
theorem SI_keep {m m' : Nat → Nat → Int} (h : g_agree SI_FP m m') (hS : SI m) : SI m' := by
  obtain ⟨hP, hR, hA, hK⟩ := hS
  have e35 : m' 3 5 = m 3 5 := h.at 0 rfl 5 (by decide) (by decide)
  have e36 : m' 3 6 = m 3 6 := h.at 0 rfl 6 (by decide) (by decide)
  have f4 : ∀ i, i < 4 → m' 4 i = m 4 i := fun i hi => h.at 1 rfl i (Nat.zero_le _) (by show i ≤ 3; omega)
  have f5 : ∀ i, i < 4 → m' 5 i = m 5 i := fun i hi => h.at 2 rfl i (Nat.zero_le _) (by show i ≤ 3; omega)
  have f6 : ∀ i, i < 5 → m' 6 i = m 6 i := fun i hi => h.at 3 rfl i (Nat.zero_le _) (by show i ≤ 4; omega)
  have f7 : ∀ i, i < 5 → m' 7 i = m 7 i := fun i hi => h.at 4 rfl i (Nat.zero_le _) (by show i ≤ 4; omega)
  have f8 : ∀ i, i < 5 → m' 8 i = m 8 i := fun i hi => h.at 5 rfl i (Nat.zero_le _) (by show i ≤ 4; omega)
  have f10 : ∀ i, i < 5 → m' 10 i = m 10 i := fun i hi => h.at 7 rfl i (Nat.zero_le _) (by show i ≤ 4; omega)
  have f11 : ∀ i, i < 5 → m' 11 i = m 11 i := fun i hi => h.at 8 rfl i (Nat.zero_le _) (by show i ≤ 4; omega)
  have f12 : ∀ i, i < 5 → m' 12 i = m 12 i := fun i hi => h.at 9 rfl i (Nat.zero_le _) (by show i ≤ 4; omega)
  have f9 : ∀ i, 4 ≤ i → i ≤ 6 → m' 9 i = m 9 i := fun i h1 h2 => h.at 6 rfl i h1 h2
  have f17 : ∀ i, 1 ≤ i → i ≤ 2 → m' 17 i = m 17 i := fun i h1 h2 => h.at 10 rfl i h1 h2
  have f35 : ∀ i, i < 18 → m' 35 i = m 35 i := fun i hi => h.at 25 rfl i (Nat.zero_le _) (by show i ≤ 17; omega)
  have f36 : ∀ i, i < 18 → m' 36 i = m 36 i := fun i hi => h.at 26 rfl i (Nat.zero_le _) (by show i ≤ 17; omega)
  have f37 : ∀ i, i < 2 → m' 37 i = m 37 i := fun i hi => h.at 27 rfl i (Nat.zero_le _) (by show i ≤ 1; omega)
  have f55 : ∀ i, i < 2 → m' 55 i = m 55 i := fun i hi => h.at 28 rfl i (Nat.zero_le _) (by show i ≤ 1; omega)
  have g55 : ∀ i, 16 ≤ i → i ≤ 17 → m' 55 i = m 55 i := fun i h1 h2 => h.at 29 rfl i h1 h2
  have f56 : ∀ i, i < 4 → m' 56 i = m 56 i := fun i hi => h.at 30 rfl i (Nat.zero_le _) (by show i ≤ 3; omega)
  have f57 : ∀ i, i < 4 → m' 57 i = m 57 i := fun i hi => h.at 31 rfl i (Nat.zero_le _) (by show i ≤ 3; omega)
  have f58 : ∀ i, i < 5 → m' 58 i = m 58 i := fun i hi => h.at 32 rfl i (Nat.zero_le _) (by show i ≤ 4; omega)
  have f59 : ∀ i, i < 5 → m' 59 i = m 59 i := fun i hi => h.at 33 rfl i (Nat.zero_le _) (by show i ≤ 4; omega)
  have f60 : ∀ i, i < 5 → m' 60 i = m 60 i := fun i hi => h.at 34 rfl i (Nat.zero_le _) (by show i ≤ 4; omega)
  have f61 : ∀ i, i < 18 → m' 61 i = m 61 i := fun i hi => h.at 35 rfl i (Nat.zero_le _) (by show i ≤ 17; omega)
  have f65 : ∀ i, i < 252 → m' 65 i = m 65 i := fun i hi => h.at 36 rfl i (Nat.zero_le _) (by show i ≤ 251; omega)
  have f70 : ∀ i, i < 2 → m' 70 i = m 70 i := fun i hi => h.at 37 rfl i (Nat.zero_le _) (by show i ≤ 1; omega)
  have f71 : ∀ i, i < 36 → m' 71 i = m 71 i := fun i hi => h.at 38 rfl i (Nat.zero_le _) (by show i ≤ 35; omega)
  have fr : ∀ j, j < 14 → ∀ i, i < 18 → m' (19 + j) i = m (19 + j) i := fun j hj i hi => by
    have : j = 0 ∨ j = 1 ∨ j = 2 ∨ j = 3 ∨ j = 4 ∨ j = 5 ∨ j = 6 ∨ j = 7 ∨ j = 8 ∨ j = 9 ∨ j = 10 ∨ j = 11 ∨ j = 12 ∨ j = 13 := by omega
    rcases this with rfl | rfl | rfl | rfl | rfl | rfl | rfl | rfl | rfl | rfl | rfl | rfl | rfl | rfl
    · exact h.at 11 rfl i (Nat.zero_le _) (by show i ≤ 17; omega)
    · exact h.at 12 rfl i (Nat.zero_le _) (by show i ≤ 17; omega)
    · exact h.at 13 rfl i (Nat.zero_le _) (by show i ≤ 17; omega)
    · exact h.at 14 rfl i (Nat.zero_le _) (by show i ≤ 17; omega)
    · exact h.at 15 rfl i (Nat.zero_le _) (by show i ≤ 17; omega)
    · exact h.at 16 rfl i (Nat.zero_le _) (by show i ≤ 17; omega)
    · exact h.at 17 rfl i (Nat.zero_le _) (by show i ≤ 17; omega)
    · exact h.at 18 rfl i (Nat.zero_le _) (by show i ≤ 17; omega)
    · exact h.at 19 rfl i (Nat.zero_le _) (by show i ≤ 17; omega)
    · exact h.at 20 rfl i (Nat.zero_le _) (by show i ≤ 17; omega)
    · exact h.at 21 rfl i (Nat.zero_le _) (by show i ≤ 17; omega)
    · exact h.at 22 rfl i (Nat.zero_le _) (by show i ≤ 17; omega)
    · exact h.at 23 rfl i (Nat.zero_le _) (by show i ≤ 17; omega)
    · exact h.at 24 rfl i (Nat.zero_le _) (by show i ≤ 17; omega)
  refine ⟨PR_congr hP (fun q i hq => ?_), ?_, ?_, KR_congr hK e35 e36 (fun q i hq h1 h2 h3 h4 => ?_)⟩
  · rcases hq with ⟨rfl, rfl | rfl⟩ | ⟨h1, h2, h3⟩ | ⟨h1, h2, h3⟩ | ⟨rfl, h3⟩ | ⟨h1, h2, h3⟩ | ⟨h1, h2, h3⟩
    · exact e35
    · exact e36
    · have : q = 4 ∨ q = 5 := by omega
      rcases this with rfl | rfl
      · exact f4 i h3
      · exact f5 i h3
    · have : q = 6 ∨ q = 7 ∨ q = 8 := by omega
      rcases this with rfl | rfl | rfl
      · exact f6 i h3
      · exact f7 i h3
      · exact f8 i h3
    · exact f55 i h3
    · have : q = 56 ∨ q = 57 := by omega
      rcases this with rfl | rfl
      · exact f56 i h3
      · exact f57 i h3
    · have : q = 58 ∨ q = 59 ∨ q = 60 := by omega
      rcases this with rfl | rfl | rfl
      · exact f58 i h3
      · exact f59 i h3
      · exact f60 i h3
  · exact sR_congr hR e35 e36 (cV_congr f10 f11 f12 f9) (fun i hi => f61 (0 + i) (by omega))
  · obtain ⟨a1, a2, a3⟩ := hA
    have b1 := f17 1 (by decide) (by decide)
    have b2 := f17 2 (by decide) (by decide)
    have b3 := g55 16 (by decide) (by decide)
    have b4 := g55 17 (by decide) (by decide)
    refine ⟨by rw [b2, b3]; exact a1, by rw [b1, b2, b4]; exact a2, fun i hi => ?_⟩
    rw [b2] at hi
    rw [b1, b3, b4]
    exact sR_congr (a3 i hi) e35 e36 (fun k hk => fr _ (by omega) k hk) (fun k hk => f65 _ (by omega))
  · have : q = 35 ∨ q = 36 ∨ q = 37 ∨ q = 70 ∨ q = 71 := by omega
    rcases this with rfl | rfl | rfl | rfl | rfl
    · exact f35 i (h1 (by decide))
    · exact f36 i (h1 (by decide))
    · exact f37 i (h2 rfl)
    · exact f70 i (h3 rfl)
    · exact f71 i (h4 rfl)
theorem reC_1 {m : Nat → Nat → Int} (a1 : 0 ≤ m 17 1 ∧ m 17 1 ≤ 13) (a2 : 0 ≤ m 17 2 ∧ m 17 2 ≤ 14) : reC m 17 1 = if m 17 2 < 14 then m 17 1 else (m 17 1 + 1) % 14 := by
  unfold reC
  split
  · rw [up_ne (by decide), sav_ne (by omega)]
  · rw [up_eq]
theorem reC_2 {m : Nat → Nat → Int} (a1 : 0 ≤ m 17 1 ∧ m 17 1 ≤ 13) (a2 : 0 ≤ m 17 2 ∧ m 17 2 ≤ 14) : reC m 17 2 = if m 17 2 < 14 then m 17 2 + 1 else m 17 2 := by
  unfold reC
  split
  · rw [up_eq]
  · rw [up_ne (by decide), sav_ne (by omega)]
theorem sav_row {m : Nat → Nat → Int} {S q q' i : Nat} (hi : i < 18) : sav m S q q' i = if q' = q then cV m S i else m q' i := by
  unfold sav
  by_cases e : q' = q
  · rw [if_pos ⟨e, hi⟩, if_pos e]
  · rw [if_neg (fun z => e z.1), if_neg e]
theorem reC_row {m : Nat → Nat → Int} {j i : Nat} (hi : i < 18) : reC m (19 + j) i = if j = ((m 17 1 + m 17 2) % 14).toNat then cV m 9 i else m (19 + j) i := by
  have e : (if 19 + j = 19 + ((m 17 1 + m 17 2) % 14).toNat then cV m 9 i else m (19 + j) i) = if j = ((m 17 1 + m 17 2) % 14).toNat then cV m 9 i else m (19 + j) i := by
    by_cases c : j = ((m 17 1 + m 17 2) % 14).toNat
    · rw [if_pos c, if_pos (by omega)]
    · rw [if_neg c, if_neg (by omega)]
  unfold reC
  split
  · rw [up_nc (by omega), sav_row hi, e]
  · rw [up_nc (by omega), sav_row hi, e]
theorem kaM_17 {m : Nat → Nat → Int} : kaM m 55 17 = (m 55 17 + 1) % 14 := by
  unfold kaM
  split
  · rw [up_ne (by decide), up_eq]
  · rw [up_ne (by decide), up_eq]
theorem kaM_16 {m : Nat → Nat → Int} : kaM m 55 16 = if m 55 16 < 14 then m 55 16 + 1 else 14 := by
  unfold kaM
  split
  · rw [up_eq]
  · rw [up_eq]
theorem kaM_65 {m : Nat → Nat → Int} {i : Nat} : kaM m 65 i = if 18 * (m 55 17).toNat ≤ i ∧ i < 18 * (m 55 17).toNat + 18 then m 61 (i - 18 * (m 55 17).toNat) else m 65 i := by
  have e : lay m 61 0 65 (18 * (m 55 17).toNat) 65 i = if 18 * (m 55 17).toNat ≤ i ∧ i < 18 * (m 55 17).toNat + 18 then m 61 (i - 18 * (m 55 17).toNat) else m 65 i := by
    unfold lay
    by_cases c : 18 * (m 55 17).toNat ≤ i ∧ i < 18 * (m 55 17).toNat + 18
    · rw [if_pos ⟨rfl, c⟩, if_pos c, Nat.zero_add]
    · rw [if_neg (fun z => c z.2), if_neg c]
  unfold kaM
  split
  · rw [up_nc (by decide), up_nc (by decide), e]
  · rw [up_nc (by decide), up_nc (by decide), e]
theorem AR_push {m m2 : Nat → Nat → Int} (hS : SR0 m) (hA : AR m) (e5 : m2 3 5 = m 3 5) (e6 : m2 3 6 = m 3 6) (o1 : m2 17 1 = if m 17 2 < 14 then m 17 1 else (m 17 1 + 1) % 14) (o2 : m2 17 2 = if m 17 2 < 14 then m 17 2 + 1 else m 17 2) (x1 : m2 55 17 = (m 55 17 + 1) % 14) (x2 : m2 55 16 = if m 55 16 < 14 then m 55 16 + 1 else 14) (rc : ∀ j, j < 14 → ∀ i, i < 18 → m2 (19 + j) i = if j = ((m 17 1 + m 17 2) % 14).toNat then cV m 9 i else m (19 + j) i) (rd : ∀ i, i < 252 → m2 65 i = if 18 * (m 55 17).toNat ≤ i ∧ i < 18 * (m 55 17).toNat + 18 then m 61 (i - 18 * (m 55 17).toNat) else m 65 i) : AR m2 := by
  obtain ⟨h1, ⟨r1, r2, r3⟩, h4⟩ := hA
  have new : ∀ (J K : Nat), J = ((m 17 1 + m 17 2) % 14).toNat → K = (m 55 17).toNat → sR (m2 3 5) (m2 3 6) (m2 (19 + J)) (fun k => m2 65 (18 * K + k)) := fun J K hJ hK => by
    refine sR_congr hS e5 e6 (fun k hk => by rw [rc _ (by omega) k hk, if_pos hJ]) (fun k hk => ?_)
    show m2 65 (18 * K + k) = m 61 (0 + k)
    rw [rd _ (by omega), if_pos ⟨by omega, by omega⟩]
    congr 1
    omega
  have old : ∀ (J K : Nat), J < 14 → K < 14 → ¬ J = ((m 17 1 + m 17 2) % 14).toNat → ¬ K = (m 55 17).toNat → sR (m 3 5) (m 3 6) (m (19 + J)) (fun k => m 65 (18 * K + k)) → sR (m2 3 5) (m2 3 6) (m2 (19 + J)) (fun k => m2 65 (18 * K + k)) := fun J K j14 k14 hJ hK h9 => by
    refine sR_congr h9 e5 e6 (fun k hk => by rw [rc _ j14 k hk, if_neg hJ]) (fun k hk => ?_)
    show m2 65 (18 * K + k) = m 65 (18 * K + k)
    rw [rd _ (by omega), if_neg (by omega)]
  by_cases c : m 17 2 < 14
  · rw [if_pos c] at o1 o2
    rw [if_pos (by omega)] at x2
    refine ⟨by omega, ⟨by omega, by omega, by omega⟩, fun i hi => ?_⟩
    by_cases ci : (i : Int) = m 17 2
    · exact new _ _ (by rw [o1, ci]) (by rw [x1, x2]; omega)
    · have h9 := h4 i (by omega)
      have jd : ((m2 55 17 + 14 - m2 55 16 + i) % 14).toNat = ((m 55 17 + 14 - m 55 16 + i) % 14).toNat := by rw [x1, x2]; omega
      rw [o1, jd]
      exact old _ _ (by omega) (by omega) (by omega) (by omega) h9
  · rw [if_neg c] at o1 o2
    rw [if_neg (by omega)] at x2
    refine ⟨by omega, ⟨by omega, by omega, by omega⟩, fun i hi => ?_⟩
    by_cases ci : i = 13
    · exact new _ _ (by rw [o1, ci]; omega) (by rw [x1, x2, ci]; omega)
    · have h9 := h4 (i + 1) (by omega)
      have jc : ((m2 17 1 + i) % 14).toNat = ((m 17 1 + ((i + 1 : Nat) : Int)) % 14).toNat := by rw [o1]; omega
      have jd : ((m2 55 17 + 14 - m2 55 16 + i) % 14).toNat = ((m 55 17 + 14 - m 55 16 + ((i + 1 : Nat) : Int)) % 14).toNat := by rw [x1, x2]; omega
      rw [jc, jd]
      exact old _ _ (by omega) (by omega) (by omega) (by omega) h9
/-- an act: both remember, then change their scenes alone -/
theorem SI_push {m m1 m2 : Nat → Nat → Int} (hS : SI m) (C1 : ∀ q i, 17 ≤ q → q ≤ 32 → m1 q i = reC m q i) (C2 : ∀ q i, (q < 9 ∨ 32 < q) → m1 q i = m q i) (D1 : ∀ q i, q ≠ 61 → m2 q i = kaM m1 q i) : PR m2 ∧ AR m2 ∧ KR m2 := by
  obtain ⟨hP, hR, hA, hK⟩ := hS
  obtain ⟨-, ⟨r1, r2, r3⟩, -⟩ := id hA
  have f : ∀ q i, q ≠ 61 → q ≠ 65 → (q ≠ 55 ∨ (i ≠ 16 ∧ i ≠ 17)) → m2 q i = m1 q i := fun q i h1 h2 h3 => by rw [D1 q i h1, kaM_c h2 h3]
  have g : ∀ q i, (q < 9 ∨ 32 < q) → q ≠ 61 → q ≠ 65 → (q ≠ 55 ∨ (i ≠ 16 ∧ i ≠ 17)) → m2 q i = m q i := fun q i h0 h1 h2 h3 => by rw [f q i h1 h2 h3, C2 q i h0]
  have e5 := g 3 5 (by omega) (by omega) (by omega) (by omega)
  have e6 := g 3 6 (by omega) (by omega) (by omega) (by omega)
  refine ⟨PR_congr hP (fun q i hq => g q i (by omega) (by omega) (by omega) (by omega)), AR_push hR hA e5 e6 ?_ ?_ ?_ ?_ (fun j hj i hi => ?_) (fun i hi => ?_), KR_congr hK e5 e6 (fun q i hq _ _ _ _ => g q i (by omega) (by omega) (by omega) (by omega))⟩
  · rw [f 17 1 (by omega) (by omega) (by omega), C1 17 1 (by decide) (by decide), reC_1 r1 r2]
  · rw [f 17 2 (by omega) (by omega) (by omega), C1 17 2 (by decide) (by decide), reC_2 r1 r2]
  · rw [D1 55 17 (by decide), kaM_17, C2 55 17 (by omega)]
  · rw [D1 55 16 (by decide), kaM_16, C2 55 16 (by omega)]
  · rw [f (19 + j) i (by omega) (by omega) (by omega), C1 (19 + j) i (by omega) (by omega), reC_row hi]
  · rw [D1 65 i (by decide), kaM_65, C2 55 17 (by omega), C2 65 i (by omega), C2 61 _ (by omega)]
/-- a person's name is put on, or taken off, in both -/
theorem SR0_set {m m2 : Nat → Nat → Int} (hS : SR0 m) {p : Nat} (hp5 : p < 5) {v : Int} (hpP : (p : Int) < m 3 6) (hv : v = -9 ∨ (0 ≤ v ∧ v < m 3 5)) (e5 : m2 3 5 = m 3 5) (e6 : m2 3 6 = m 3 6) (w : ∀ i, i < 5 → m2 10 i = if i = p then v else m 10 i) (h : ∀ i, i < 5 → m2 11 i = if i = p then 0 else m 11 i) (a : ∀ i, i < 5 → m2 12 i = m 12 i) (dw : ∀ i, i < 5 → m2 61 (0 + i) = if i = p then v else m 61 (0 + i)) (dh : ∀ i, i < 5 → m2 61 (5 + i) = if i = p then 0 else m 61 (5 + i)) (da : ∀ i, i < 5 → m2 61 (10 + i) = m 61 (10 + i)) (g : m2 9 4 = m2 61 15 ∧ m2 9 5 = m2 61 16 ∧ m2 9 6 = m2 61 17) : SR0 m2 := by
  refine SR0_of (fun i hi hp => ?_) g (fun i hi => ?_) (fun i hi hp => ?_)
  · rw [e6] at hp
    obtain ⟨s1, s2, s3⟩ := hS.w hi hp
    rw [w i hi, h i hi, a i hi, dw i hi, dh i hi, da i hi, s1, s2, s3]
    exact ⟨rfl, rfl, rfl⟩
  · rw [w i hi, e5]
    split
    · exact hv
    · exact hS.v hi
  · rw [e6] at hp
    rw [w i hi, a i hi, if_neg (by omega)]
    exact hS.o hi hp
theorem f_a1 {q : Nat} : y_args [(2, Int.ofNat q, Int.ofNat q, false)] [.ref q] := f_args_c f_rAr f_args_n
theorem f_a2 {x : Int} {q : Nat} : y_args [(2, Int.ofNat q, Int.ofNat q, false), (0, Int.negSucc 2147483647, Int.ofNat 2147483647, false)] [.ref q, fi x] := f_args_c f_rAr (f_args_c f_rAi f_args_n)
theorem f_a3 {x y : Int} {q : Nat} : y_args [(2, Int.ofNat q, Int.ofNat q, false), (0, Int.negSucc 2147483647, Int.ofNat 2147483647, false), (0, Int.negSucc 2147483647, Int.ofNat 2147483647, false)] [.ref q, fi x, fi y] := f_args_c f_rAr (f_args_c f_rAi (f_args_c f_rAi f_args_n))
theorem SI_call {aC aM : Nat} {ctC ctM : yCt} {RC RM : ev_R} (hRC : ev_ms aC = some RC) (hRM : ev_ms aM = some RM) (hC : y_Mca yG aC ctC) (hM : y_Mca yG aM ctM) {hc : ev_H} {asC asM : List Value} (gC : y_args ctC.1 asC) (gM : y_args ctM.1 asM) (hin : y_in yG hc) {z z' : Int} {m1 m2 : Nat → Nat → Int} (h1 : h_M aC asC (gi hc) (some (fi z)) m1) (h2 : h_M aM asM m1 (some (fi z')) m2) (ez : z = z') (hS : SI m2) : ∃ rr hc1 fs1 hc2, (-2147483648 ≤ rr ∧ rr ≤ 2147483647) ∧ f_M aC asC hc (some (fi rr)) hc1 ∧ hc1[55]? = some (.inr (.inr (10, fs1))) ∧ f_M aM asM hc1 (some (fi rr)) hc2 ∧ y_in yG hc2 ∧ SI (gi hc2) ∧ y_un ctC.2.2 hc hc1 ∧ y_un ctM.2.2 hc1 hc2 := by
  subst ez
  obtain ⟨hc1, a1, a2, a3⟩ := h1 hc (y_win hin) rfl
  obtain ⟨hc2, b1, b2, b3⟩ := h2 hc1 a2 a3
  obtain ⟨i1, u1⟩ := f_Mu hRC hC hin gC a1
  obtain ⟨i2, u2⟩ := f_Mu hRM hM i1 gM b1
  obtain ⟨fs1, q55⟩ := g_55 i1
  obtain ⟨rr, r0, er⟩ := g_i32 (z := z)
  exact ⟨rr, hc1, fs1, hc2, r0, er ▸ a1, q55, er ▸ b1, i2, by rw [b3]; exact hS, u1, u2⟩
theorem iA01 {b : Int} {C : Prop} [Decidable C] (h : C ↔ iA b 1 = 1) : (if C then 1 else 0) = iA b 1 := by
  have r := iA1_r b
  by_cases c : C
  · rw [if_pos c, h.mp c]
  · rw [if_neg c]
    have : ¬ iA b 1 = 1 := fun z => c (h.mpr z)
    omega
theorem nm_eq {m : Nat → Nat → Int} (hP : PR m) (hR : SR0 m) (x k : Int) : nmC m x k = nmM m x k := by
  unfold nmC nmM
  rw [← hP.1.1]
  by_cases c : 0 ≤ x ∧ x < m 3 5
  · have q := hP.2.2.1 x.toNat (by have := hP.2.1.1; omega) (by omega)
    have e1 : wo m x = m 57 x.toNat := (if_pos c).trans q.2
    rw [if_pos c, if_pos c, hP.kdE c, e1, hR.wrE hP c.1, hR.g.1, iA01 ⟨fun z => z.2, fun z => ⟨c, z⟩⟩]
  · rw [if_neg c, if_neg c]
theorem sbS_at {m : Nat → Nat → Int} {i : Nat} (hi : i < 5) : iA (iR (sbS m 10) (i : Int)) 1 = bI (sbP m 10 i) := by
  rw [sbS_b]
  have : i = 0 ∨ i = 1 ∨ i = 2 ∨ i = 3 ∨ i = 4 := by omega
  rcases this with rfl | rfl | rfl | rfl | rfl
  · exact b5_0 _ _ _ _ _
  · exact b5_1 _ _ _ _ _
  · exact b5_2 _ _ _ _ _
  · exact b5_3 _ _ _ _ _
  · exact b5_4 _ _ _ _ _
theorem ft_eq {m : Nat → Nat → Int} (hP : PR m) {x : Int} (c : 0 ≤ x ∧ x < m 3 6) : ft m x = m 60 x.toNat := (if_pos c).trans (hP.2.2.2 x.toNat (by have := hP.2.1.2; omega) (by omega)).2.2.symm
theorem ps_eq {m : Nat → Nat → Int} (hP : PR m) (hR : SR0 m) (x k : Int) : psC m x k = psM m x k := by
  unfold psC psM
  rw [← hP.1.2]
  by_cases c : 0 ≤ x ∧ x < m 3 6
  · have x5 : x.toNat < 5 := by have := hP.2.1.2; omega
    have xp : (x.toNat : Int) < m 3 6 := by omega
    have q := hP.2.2.2 x.toNat x5 xp
    obtain ⟨s1, s2, s3⟩ := hR.w x5 xp
    rw [Nat.zero_add] at s1
    have e1 : aH m 6 x = m 58 x.toNat := (if_pos c).trans q.1
    have e2 : aH m 7 x = m 59 x.toNat := (if_pos c).trans q.2.1
    have e3 : nO m 10 x = m 61 x.toNat := (if_pos c).trans s1
    have e4 : aH m 11 x = m 61 (5 + x).toNat := (if_pos c).trans (by rw [s2, show (5 + x).toNat = 5 + x.toNat by omega])
    have e5 : aH m 12 x = m 61 (10 + x).toNat := (if_pos c).trans (by rw [s3, show (10 + x).toNat = 10 + x.toNat by omega])
    have e6 : (if (0 ≤ x ∧ x < m 3 6) ∧ iA (iR (sbS m 10) x) 1 = 1 then (1 : Int) else 0) = (if ¬ sbM0 m (m 61 x.toNat) = 0 then 1 else 0) := by
      have h8 := sbS_at (m := m) x5
      have h9 := hR.sbE hP x5 xp
      rw [Nat.zero_add] at h9
      rw [show ((x.toNat : Nat) : Int) = x by omega] at h8
      rw [h8, h9]
      cases sbP m 10 x.toNat
      · rw [if_neg (fun z => absurd z.2 (by decide)), if_neg (fun z => z rfl)]
      · rw [if_pos ⟨c, rfl⟩, if_pos (by decide)]
    have e7 : (if (0 ≤ x ∧ x < m 3 6) ∧ iA (iR (m 61 16) x) 1 = 1 then (1 : Int) else 0) = iA (iR (m 61 16) x) 1 := iA01 ⟨fun z => z.2, fun z => ⟨c, z⟩⟩
    rw [if_pos c, if_pos c, e1, e2, ft_eq hP c, e3, e4, e5, e6, hR.g.2.1, e7]
  · rw [if_neg c, if_neg c]
theorem SI_name {hc : ev_H} (hin : y_in yG hc) (hS : SI (gi hc)) {x : Int} (rx : -2147483648 ≤ x ∧ x ≤ 2147483647) {k : Int} (rk : -2147483648 ≤ k ∧ k ≤ 2147483647) : ∃ rr hc1 fs1 hc2, (-2147483648 ≤ rr ∧ rr ≤ 2147483647) ∧ f_M 45 [.ref 0, fi x, fi k] hc (some (fi rr)) hc1 ∧ hc1[55]? = some (.inr (.inr (10, fs1))) ∧ f_M 48 [.ref 55, fi x, fi k] hc1 (some (fi rr)) hc2 ∧ y_in yG hc2 ∧ SI (gi hc2) ∧ y_un yct45_0.2.2 hc hc1 ∧ y_un yct48_0.2.2 hc1 hc2 := by
  obtain ⟨hP, hR, hA, hK⟩ := id hS
  have hn := hP.2.1.1
  have hp := hP.2.1.2
  have hJ := hR.j hP
  exact SI_call (RC := ev_r45) (RM := ev_r48) rfl rfl yc45_0 yc48_0 f_a3 f_a3 hin (t45 hn rx rk) (t48 hJ.1 hJ.2.1 rx rk) (nm_eq hP hR x k) hS
theorem SI_person {hc : ev_H} (hin : y_in yG hc) (hS : SI (gi hc)) {x : Int} (rx : -2147483648 ≤ x ∧ x ≤ 2147483647) {k : Int} (rk : -2147483648 ≤ k ∧ k ≤ 2147483647) : ∃ rr hc1 fs1 hc2, (-2147483648 ≤ rr ∧ rr ≤ 2147483647) ∧ f_M 60 [.ref 0, fi x, fi k] hc (some (fi rr)) hc1 ∧ hc1[55]? = some (.inr (.inr (10, fs1))) ∧ f_M 63 [.ref 55, fi x, fi k] hc1 (some (fi rr)) hc2 ∧ y_in yG hc2 ∧ SI (gi hc2) ∧ y_un yct60_0.2.2 hc hc1 ∧ y_un yct63_0.2.2 hc1 hc2 := by
  obtain ⟨hP, hR, hA, hK⟩ := id hS
  have hn := hP.2.1.1
  have hp := hP.2.1.2
  have hJ := hR.j hP
  exact SI_call (RC := ev_r60) (RM := ev_r63) rfl rfl yc60_0 yc63_0 f_a3 f_a3 hin (t60 hn hp rx rk) (t63 hJ rx rk) (ps_eq hP hR x k) hS
theorem can_eq {m : Nat → Nat → Int} (hP : PR m) (hR : SR0 m) {x k : Int} (hx : 0 ≤ x ∧ x < m 3 6) (hk : 0 ≤ k ∧ k < m 3 5) : (nO m 10 x = -9 ∧ ((0 ≤ k ∧ k < m 3 5) ∧ ¬ ((0 ≤ x ∧ x < m 3 6) ∧ iA (iR (m 9 5) (x)) (1) = 1) ∧ iA (iR (ft m x) (k)) (1) = 1) ∧ ¬ ((0 ≤ k ∧ k < m 3 5) ∧ iA (iR (m 9 4) (k)) (1) = 1) ∧ bC (wr m 10 k) < rm m k) ↔ (¬ iA (iR (m 61 16) (x)) (1) = 1 ∧ m 61 x.toNat = -9 ∧ ¬ iA (iR (m 61 15) (k)) (1) = 1 ∧ iA (iR (m 60 x.toNat) (k)) (1) = 1 ∧ onS (dw0 m k) < rmM m k) := by
  have x5 : x.toNat < 5 := by have := hP.2.1.2; omega
  have s1 := (hR.w x5 (by omega)).1
  rw [Nat.zero_add] at s1
  have e3 : nO m 10 x = m 61 x.toNat := (if_pos hx).trans s1
  rw [e3, ft_eq hP hx, hR.g.1, hR.g.2.1, bC_wr0, hR.wrE hP hk.1, hP.rmE hk]
  exact ⟨fun z => ⟨fun y => z.2.1.2.1 ⟨hx, y⟩, z.1, fun y => z.2.2.1 ⟨hk, y⟩, z.2.1.2.2, z.2.2.2⟩, fun z => ⟨z.2.1, ⟨hk, fun y => z.1 y.2, z.2.2.2.1⟩, fun y => z.2.2.1 y.2, z.2.2.2.2⟩⟩
theorem canM_congr {m m' : Nat → Nat → Int} (e55 : m' 55 1 = m 55 1) (e56 : ∀ i, m' 56 i = m 56 i) (e60 : ∀ i, m' 60 i = m 60 i) (e61 : ∀ i, m' 61 i = m 61 i) {x k : Int} (h : ¬ iA (iR (m 61 16) (x)) (1) = 1 ∧ m 61 x.toNat = -9 ∧ ¬ iA (iR (m 61 15) (k)) (1) = 1 ∧ iA (iR (m 60 x.toNat) (k)) (1) = 1 ∧ onS (dw0 m k) < rmM m k) : ¬ iA (iR (m' 61 16) (x)) (1) = 1 ∧ m' 61 x.toNat = -9 ∧ ¬ iA (iR (m' 61 15) (k)) (1) = 1 ∧ iA (iR (m' 60 x.toNat) (k)) (1) = 1 ∧ onS (dw0 m' k) < rmM m' k := by
  have e1 : dw0 m' k = dw0 m k := dw0_congr e55 (fun i _ => e61 _) k
  have e2 : rmM m' k = rmM m k := by unfold rmM; rw [e56]
  rw [e61, e61, e61, e60, e1, e2]
  exact h
theorem puC_at {m : Nat → Nat → Int} {x k : Int} (hx : 0 ≤ x ∧ x < m 3 6) {i : Nat} : puC m 10 11 x k 10 i = (if i = x.toNat then k else m 10 i) ∧ puC m 10 11 x k 11 i = (if i = x.toNat then 0 else m 11 i) := by
  unfold puC
  rw [if_pos hx, up_nc (by decide)]
  by_cases c : i = x.toNat
  · subst c
    rw [up_eq, up_eq, if_pos rfl, if_pos rfl]
    exact ⟨rfl, rfl⟩
  · rw [up_ne (fun z => c z.2), up_ne (fun z => c z.2), up_nc (by decide), if_neg c, if_neg c]
    exact ⟨rfl, rfl⟩
theorem toM_at {m1 : Nat → Nat → Int} {x k : Int} (hx : 0 ≤ x ∧ x < 5) {i : Nat} : (i < 5 → (up (up (kaM m1) 61 x.toNat (k)) 61 (5 + x).toNat 0) 61 (0 + i) = if i = x.toNat then k else m1 61 (0 + i)) ∧ (i < 5 → (up (up (kaM m1) 61 x.toNat (k)) 61 (5 + x).toNat 0) 61 (5 + i) = if i = x.toNat then 0 else m1 61 (5 + i)) ∧ (10 ≤ i → (up (up (kaM m1) 61 x.toNat (k)) 61 (5 + x).toNat 0) 61 i = m1 61 i) := by
  have ka : ∀ i, kaM m1 61 i = m1 61 i := fun i => kaM_c (by decide) (Or.inl (by decide))
  refine ⟨fun hi => ?_, fun hi => ?_, fun hi => ?_⟩
  · rw [up_ne (by omega)]
    by_cases c : i = x.toNat
    · rw [if_pos c, Nat.zero_add, c, up_eq]
    · rw [if_neg c, up_ne (by omega), ka]
  · by_cases c : i = x.toNat
    · rw [if_pos c, show 5 + i = (5 + x).toNat by omega, up_eq]
    · rw [if_neg c, up_ne (by omega), up_ne (by omega), ka]
  · rw [up_ne (by omega), up_ne (by omega), ka]
/-- what take, hang leave -/
theorem SI_put {m : Nat → Nat → Int} (hS : SI m) {x k : Int} (hx : 0 ≤ x ∧ x < m 3 6) (hk : k = -9 ∨ (0 ≤ k ∧ k < m 3 5)) {m1 : Nat → Nat → Int} (e : m1 = puC (reC m) 10 11 x k) : SI (up (up (kaM m1) 61 x.toNat (k)) 61 (5 + x).toNat 0) := by
  obtain ⟨hP, hR, hA, hK⟩ := id hS
  obtain ⟨-, ⟨a1, a2, a3⟩, -⟩ := hA
  have hx5 : 0 ≤ x ∧ x < 5 := by have := hP.2.1.2; omega
  have C0 : ∀ q i, (q < 10 ∨ 32 < q ∨ q = 12) → m1 q i = m q i := fun q i hq => by rw [e, puC_c (by omega) (by omega), reC_c a1 a2 (by omega)]
  have D : ∀ q i, q ≠ 61 → (up (up (kaM m1) 61 x.toNat (k)) 61 (5 + x).toNat 0) q i = kaM m1 q i := fun q i hq => by rw [up_nc hq, up_nc hq]
  have D2 : ∀ q i, q < 55 → (up (up (kaM m1) 61 x.toNat (k)) 61 (5 + x).toNat 0) q i = m1 q i := fun q i hq => by rw [D q i (by omega), kaM_c (by omega) (Or.inl (by omega))]
  have hx' : 0 ≤ x ∧ x < reC m 3 6 := by rw [reC_c a1 a2 (by omega)]; exact hx
  obtain ⟨q1, q2, q3⟩ := SI_push (m2 := (up (up (kaM m1) 61 x.toNat (k)) 61 (5 + x).toNat 0)) hS (fun q i h1 h2 => by rw [e, puC_c (by omega) (by omega)]) (fun q i hq => C0 q i (by omega)) D
  have pc := fun i => puC_at (m := reC m) (k := k) hx' (i := i)
  have tm := fun i => toM_at (m1 := m1) (k := k) hx5 (i := i)
  refine ⟨q1, SR0_set hR (p := x.toNat) (by omega) (by omega) hk ?_ ?_ (fun i hi => ?_) (fun i hi => ?_) (fun i hi => ?_) (fun i hi => ?_) (fun i hi => ?_) (fun i hi => ?_) ?_, q2, q3⟩
  · rw [D2 3 5 (by decide), C0 3 5 (by omega)]
  · rw [D2 3 6 (by decide), C0 3 6 (by omega)]
  · rw [D2 10 i (by decide), e, (pc i).1, reC_c a1 a2 (by omega)]
  · rw [D2 11 i (by decide), e, (pc i).2, reC_c a1 a2 (by omega)]
  · rw [D2 12 i (by decide), C0 12 i (by omega)]
  · rw [(tm i).1 hi, C0 61 _ (by omega)]
  · rw [(tm i).2.1 hi, C0 61 _ (by omega)]
  · rw [(tm (10 + i)).2.2 (by omega), C0 61 _ (by omega)]
  · rw [D2 9 4 (by decide), D2 9 5 (by decide), D2 9 6 (by decide), (tm 15).2.2 (by decide), (tm 16).2.2 (by decide), (tm 17).2.2 (by decide), C0 9 4 (by omega), C0 9 5 (by omega), C0 9 6 (by omega), C0 61 15 (by omega), C0 61 16 (by omega), C0 61 17 (by omega)]
    exact hR.g
theorem wr_congr {m m' : Nat → Nat → Int} {w : Nat} (h : ∀ i, m' w i = m w i) (k : Int) : wr m' w k = wr m w k := by rw [wr_bits, wr_bits, h, h, h, h, h]
theorem SI_take {hc : ev_H} (hin : y_in yG hc) (hS : SI (gi hc)) {x : Int} (rx : -2147483648 ≤ x ∧ x ≤ 2147483647) {k : Int} (rk : -2147483648 ≤ k ∧ k ≤ 2147483647) : ∃ rr hc1 fs1 hc2, (-2147483648 ≤ rr ∧ rr ≤ 2147483647) ∧ f_M 72 [.ref 0, fi x, fi k] hc (some (fi rr)) hc1 ∧ hc1[55]? = some (.inr (.inr (10, fs1))) ∧ f_M 80 [.ref 55, fi x, fi k] hc1 (some (fi rr)) hc2 ∧ y_in yG hc2 ∧ SI (gi hc2) ∧ y_un yct72_0.2.2 hc hc1 ∧ y_un yct80_0.2.2 hc1 hc2 := by
  obtain ⟨hP, hR, hA, hK⟩ := id hS
  have hn := hP.2.1.1
  have hp := hP.2.1.2
  have hJ := hR.j hP
  obtain ⟨-, ⟨a1, a2, a3⟩, -⟩ := id hA
  have hb := hA.1
  by_cases h0 : (0 ≤ x ∧ x < gi hc 3 6) ∧ (0 ≤ k ∧ k < gi hc 3 5)
  · obtain ⟨hx, hk⟩ := h0
    have hxM : 0 ≤ x ∧ x < gi hc 55 1 := by rw [← hP.1.2]; exact hx
    have hkM : 0 ≤ k ∧ k < gi hc 55 0 := by rw [← hP.1.1]; exact hk
    by_cases hcn : nO (gi hc) 10 x = -9 ∧ ((0 ≤ k ∧ k < gi hc 3 5) ∧ ¬ ((0 ≤ x ∧ x < gi hc 3 6) ∧ iA (iR (gi hc 9 5) (x)) (1) = 1) ∧ iA (iR (ft (gi hc) x) (k)) (1) = 1) ∧ ¬ ((0 ≤ k ∧ k < gi hc 3 5) ∧ iA (iR (gi hc 9 4) (k)) (1) = 1) ∧ bC (wr (gi hc) 10 k) < rm (gi hc) k
    · have E : ∀ q i, 33 ≤ q → puC (reC (gi hc)) 10 11 x k q i = gi hc q i := fun q i hq => by rw [puC_c (by omega) (by omega), reC_c a1 a2 (by omega)]
      have cM := canM_congr (m' := puC (reC (gi hc)) 10 11 x k) (E 55 1 (by decide)) (fun i => E 56 i (by decide)) (fun i => E 60 i (by decide)) (fun i => E 61 i (by decide)) ((can_eq hP hR hx hk).mp hcn)
      have S2 := SI_put hS hx (Or.inr hk) rfl
      refine SI_call (RC := ev_r72) (RM := ev_r80) rfl rfl yc72_0 yc80_0 f_a3 f_a3 hin (t72_ok hn hp a1 a2 rx rk hx hk hcn) (t80_ok (by rw [E 55 0 (by decide)]; exact hJ.1) (by rw [E 55 1 (by decide)]; exact hJ.2.1) (by rw [E 55 17 (by decide)]; exact a3) (by rw [E 55 16 (by decide)]; omega) rx rk (by rw [E 55 1 (by decide)]; exact hxM) (by rw [E 55 0 (by decide)]; exact hkM) cM) ?_ S2
      rw [bC_wr0, ← S2.2.1.wrE S2.1 hk.1]
      congr 1
      exact (wr_congr (fun i => by rw [up_nc (by decide), up_nc (by decide), kaM_c (by decide) (Or.inl (by decide))]) k).symm
    · exact SI_call (RC := ev_r72) (RM := ev_r80) rfl rfl yc72_0 yc80_0 f_a3 f_a3 hin (t72_st hn hp rx rk hx hk hcn) (t80_st hJ.1 hJ.2.1 rx rk hxM hkM (fun z => hcn ((can_eq hP hR hx hk).mpr z))) rfl hS
  · exact SI_call (RC := ev_r72) (RM := ev_r80) rfl rfl yc72_0 yc80_0 f_a3 f_a3 hin (t72_un hn hp rx rk h0) (t80_un hJ.1 hJ.2.1 rx rk (by rw [← hP.1.1, ← hP.1.2]; exact h0)) rfl hS
theorem SI_hang {hc : ev_H} (hin : y_in yG hc) (hS : SI (gi hc)) {x : Int} (rx : -2147483648 ≤ x ∧ x ≤ 2147483647) : ∃ rr hc1 fs1 hc2, (-2147483648 ≤ rr ∧ rr ≤ 2147483647) ∧ f_M 82 [.ref 0, fi x] hc (some (fi rr)) hc1 ∧ hc1[55]? = some (.inr (.inr (10, fs1))) ∧ f_M 83 [.ref 55, fi x] hc1 (some (fi rr)) hc2 ∧ y_in yG hc2 ∧ SI (gi hc2) ∧ y_un yct82_0.2.2 hc hc1 ∧ y_un yct83_0.2.2 hc1 hc2 := by
  obtain ⟨hP, hR, hA, hK⟩ := id hS
  have hn := hP.2.1.1
  have hp := hP.2.1.2
  have hJ := hR.j hP
  obtain ⟨-, ⟨a1, a2, a3⟩, -⟩ := id hA
  have hb := hA.1
  by_cases hx : 0 ≤ x ∧ x < gi hc 3 6
  · have hxM : 0 ≤ x ∧ x < gi hc 55 1 := by rw [← hP.1.2]; exact hx
    have s1 := (hR.w (i := x.toNat) (by omega) (by omega)).1
    rw [Nat.zero_add] at s1
    have e3 : nO (gi hc) 10 x = gi hc 61 x.toNat := (if_pos hx).trans s1
    by_cases hw : nO (gi hc) 10 x = -9
    · exact SI_call (RC := ev_r82) (RM := ev_r83) rfl rfl yc82_0 yc83_0 f_a2 f_a2 hin (t82_st hp rx hx hw) (t83_st hJ.2.1 rx hxM (by rw [← e3]; exact hw)) rfl hS
    · have E : ∀ q i, 33 ≤ q → puC (reC (gi hc)) 10 11 x (-9) q i = gi hc q i := fun q i hq => by rw [puC_c (by omega) (by omega), reC_c a1 a2 (by omega)]
      exact SI_call (RC := ev_r82) (RM := ev_r83) rfl rfl yc82_0 yc83_0 f_a2 f_a2 hin (t82_ok hp a1 a2 rx hx hw) (t83_ok (by rw [E 55 1 (by decide)]; exact hJ.2.1) (by rw [E 55 17 (by decide)]; exact a3) (by rw [E 55 16 (by decide)]; omega) rx (by rw [E 55 1 (by decide)]; exact hxM) (by rw [E 61 _ (by decide), ← e3]; exact hw)) (by rw [E 61 _ (by decide)]; exact e3) (SI_put hS hx (Or.inl rfl) rfl)
  · exact SI_call (RC := ev_r82) (RM := ev_r83) rfl rfl yc82_0 yc83_0 f_a2 f_a2 hin (t82_un hp rx hx) (t83_un hJ.2.1 rx (by rw [← hP.1.2]; exact hx)) rfl hS
theorem SI_hour {hc : ev_H} (hin : y_in yG hc) (hS : SI (gi hc)) : ∃ rr hc1 fs1 hc2, (-2147483648 ≤ rr ∧ rr ≤ 2147483647) ∧ f_M 89 [.ref 0] hc (some (fi rr)) hc1 ∧ hc1[55]? = some (.inr (.inr (10, fs1))) ∧ f_M 92 [.ref 55] hc1 (some (fi rr)) hc2 ∧ y_in yG hc2 ∧ SI (gi hc2) ∧ y_un yct89_0.2.2 hc hc1 ∧ y_un yct92_0.2.2 hc1 hc2 := by
  obtain ⟨hP, hR, hA, hK⟩ := id hS
  have hn := hP.2.1.1
  have hp := hP.2.1.2
  have hJ := hR.j hP
  obtain ⟨-, ⟨a1, a2, a3⟩, -⟩ := id hA
  have hb := hA.1
  generalize hm : gi hc = m at *
  subst hm
  have re : ∀ q i, (q < 17 ∨ 32 < q) → reC (gi hc) q i = gi hc q i := fun q i hq => reC_c a1 a2 hq
  have hP' : PR (reC (gi hc)) := PR_congr hP (fun q i hq => re q i (by omega))
  have hR' : SR0 (reC (gi hc)) := sR_congr hR (re 3 5 (by omega)) (re 3 6 (by omega)) (cV_congr (fun i hi => re _ _ (by omega)) (fun i hi => re _ _ (by omega)) (fun i hi => re _ _ (by omega)) (fun i _ _ => re _ _ (by omega))) (fun i hi => re _ _ (by omega))
  have E : ∀ q i, 33 ≤ q → phC9 (reC (gi hc)) q i = gi hc q i := fun q i hq => by rw [ph9_c (by omega) (by omega) (by omega) (by omega), re q i (by omega)]
  have hJ1 : jM0 (phC9 (reC (gi hc))) := ⟨by rw [E 55 0 (by decide)]; exact hJ.1, by rw [E 55 1 (by decide)]; exact hJ.2.1, fun i h1 h2 => by rw [E 55 1 (by decide)] at h2; rw [E 61 _ (by decide)]; exact hJ.2.2 i h1 h2⟩
  obtain ⟨q1, q2⟩ := SR0.hour (k1 := kaM (phC9 (reC (gi hc)))) hP' hR' (fun q i hq => kaM_c (by omega) (by omega))
  obtain ⟨p1, p2, p3⟩ := SI_push (m1 := phC9 (reC (gi hc))) (m2 := (l1_0_0 (kaM (phC9 (reC (gi hc)))) 0).1) hS (fun q i h1 h2 => ph9_c (by omega) (by omega) (by omega) (by omega)) (fun q i hq => by rw [ph9_c (by omega) (by omega) (by omega) (by omega), re q i (by omega)]) (fun q i hq => l1_0_c _ (Or.inl hq))
  exact SI_call (RC := ev_r89) (RM := ev_r92) rfl rfl yc89_0 yc92_0 f_a1 f_a1 hin (t89 hn hp a1 a2) (t92 hJ1 (by rw [E 55 17 (by decide)]; exact a3) (by rw [E 55 16 (by decide)]; omega)) q2 ⟨p1, q1, p2, p3⟩
theorem roC_c {m : Nat → Nat → Int} {x : Int} {q i : Nat} (h : q < 9 ∨ 11 < q ∨ (q = 9 ∧ i = 6)) : roC m x q i = m q i := by
  unfold roC
  rw [puC_c (by omega) (by omega), up_ne (by omega), up_ne (by omega)]
theorem SI_run {hc : ev_H} (hin : y_in yG hc) (hS : SI (gi hc)) {x : Int} (rx : -2147483648 ≤ x ∧ x ≤ 2147483647) : ∃ rr hc1 fs1 hc2, (-2147483648 ≤ rr ∧ rr ≤ 2147483647) ∧ f_M 94 [.ref 0, fi x] hc (some (fi rr)) hc1 ∧ hc1[55]? = some (.inr (.inr (10, fs1))) ∧ f_M 95 [.ref 55, fi x] hc1 (some (fi rr)) hc2 ∧ y_in yG hc2 ∧ SI (gi hc2) ∧ y_un yct94_0.2.2 hc hc1 ∧ y_un yct95_0.2.2 hc1 hc2 := by
  obtain ⟨hP, hR, hA, hK⟩ := id hS
  have hn := hP.2.1.1
  have hp := hP.2.1.2
  have hJ := hR.j hP
  obtain ⟨-, ⟨a1, a2, a3⟩, -⟩ := id hA
  have hb := hA.1
  by_cases hx : 0 ≤ x ∧ x < gi hc 3 6
  · have hxM : 0 ≤ x ∧ x < gi hc 55 1 := by rw [← hP.1.2]; exact hx
    have s1 := (hR.w (i := x.toNat) (by omega) (by omega)).1
    rw [Nat.zero_add] at s1
    have e3 : nO (gi hc) 10 x = gi hc 61 x.toNat := (if_pos hx).trans s1
    by_cases hw : nO (gi hc) 10 x = -9
    · exact SI_call (RC := ev_r94) (RM := ev_r95) rfl rfl yc94_0 yc95_0 f_a2 f_a2 hin (t94_st hp rx hx hw) (t95_st hJ.2.1 rx hxM (by rw [← e3]; exact hw)) rfl hS
    · have re : ∀ q i, (q < 17 ∨ 32 < q) → reC (gi hc) q i = gi hc q i := fun q i hq => reC_c a1 a2 hq
      have E : ∀ q i, 33 ≤ q → roC (reC (gi hc)) x q i = gi hc q i := fun q i hq => by rw [roC_c (by omega), re q i (by omega)]
      have e4 : nO (reC (gi hc)) 10 x = gi hc 61 x.toNat := by unfold nO; rw [re 3 6 (by omega), re 10 _ (by omega)]; exact e3
      refine SI_call (RC := ev_r94) (RM := ev_r95) rfl rfl yc94_0 yc95_0 f_a2 f_a2 hin (t94_ok hp a1 a2 rx hx hw) (t95_ok (by rw [E 55 1 (by decide)]; exact hJ.2.1) (by rw [E 55 17 (by decide)]; exact a3) (by rw [E 55 16 (by decide)]; omega) rx (by rw [E 55 1 (by decide)]; exact hxM) (by rw [E 61 _ (by decide), ← e3]; exact hw)) (by rw [E 61 _ (by decide)]; exact e3) ?_
      generalize hm1 : roC (reC (gi hc)) x = m1 at E
      have hx5 : 0 ≤ x ∧ x < 5 := by omega
      have D : ∀ q i, q ≠ 61 → roM m1 x q i = kaM m1 q i := fun q i hq => by unfold roM; rw [up_nc hq, up_nc hq, up_nc hq, up_nc hq]
      have D2 : ∀ q i, q < 55 → roM m1 x q i = m1 q i := fun q i hq => by rw [D q i (by omega), kaM_c (by omega) (Or.inl (by omega))]
      obtain ⟨q1, q2, q3⟩ := SI_push (m1 := m1) (m2 := roM m1 x) hS (fun q i h1 h2 => by rw [← hm1, roC_c (by omega)]) (fun q i hq => by rw [← hm1, roC_c (by omega), re q i (by omega)]) D
      have tm := fun i => toM_at (m1 := m1) (k := -9) hx5 (i := i)
      have tr : ∀ i, i ≠ 15 → i ≠ 16 → roM m1 x 61 i = (up (up (kaM m1) 61 x.toNat (-9)) 61 (5 + x).toNat 0) 61 i := fun i h1 h2 => by unfold roM; rw [up_ne (by omega), up_ne (by omega)]
      have hx' : 0 ≤ x ∧ x < (up (up (reC (gi hc)) 9 4 (iO (reC (gi hc) 9 4) (iS (1) (nO (reC (gi hc)) 10 x)))) 9 5 (iO (reC (gi hc) 9 5) (iS (1) (x)))) 3 6 := by rw [up_nc (by decide), up_nc (by decide), re 3 6 (by omega)]; exact hx
      have C0 : ∀ q i, (q < 9 ∨ 32 < q ∨ q = 12 ∨ (q = 9 ∧ i = 6)) → m1 q i = gi hc q i := fun q i hq => by rw [← hm1, roC_c (by omega), re q i (by omega)]
      have pw : ∀ i, m1 10 i = (if i = x.toNat then -9 else gi hc 10 i) ∧ m1 11 i = (if i = x.toNat then 0 else gi hc 11 i) := fun i => by
        rw [← hm1]
        unfold roC
        rw [(puC_at hx').1, (puC_at hx').2, up_nc (by decide), up_nc (by decide), up_nc (by decide), up_nc (by decide), re 10 i (by omega), re 11 i (by omega)]
        exact ⟨rfl, rfl⟩
      have g4 : m1 9 4 = iO (gi hc 9 4) (iS 1 (gi hc 61 x.toNat)) := by
        rw [← hm1]
        unfold roC
        rw [puC_c (by decide) (by decide), up_ne (by decide), up_eq, re 9 4 (by omega), e4]
      have g5 : m1 9 5 = iO (gi hc 9 5) (iS 1 x) := by
        rw [← hm1]
        unfold roC
        rw [puC_c (by decide) (by decide), up_eq, re 9 5 (by omega)]
      refine ⟨q1, SR0_set hR (p := x.toNat) (by omega) (by omega) (Or.inl rfl) ?_ ?_ (fun i hi => ?_) (fun i hi => ?_) (fun i hi => ?_) (fun i hi => ?_) (fun i hi => ?_) (fun i hi => ?_) ⟨?_, ?_, ?_⟩, q2, q3⟩
      · rw [D2 3 5 (by decide), C0 3 5 (by omega)]
      · rw [D2 3 6 (by decide), C0 3 6 (by omega)]
      · rw [D2 10 i (by decide), (pw i).1]
      · rw [D2 11 i (by decide), (pw i).2]
      · rw [D2 12 i (by decide), C0 12 i (by omega)]
      · rw [tr _ (by omega) (by omega), (tm i).1 hi, C0 61 _ (by omega)]
      · rw [tr _ (by omega) (by omega), (tm i).2.1 hi, C0 61 _ (by omega)]
      · rw [tr _ (by omega) (by omega), (tm (10 + i)).2.2 (by omega), C0 61 _ (by omega)]
      · rw [D2 9 4 (by decide), g4]
        unfold roM
        rw [up_ne (by decide), up_eq, E 61 15 (by decide), E 61 _ (by decide), hR.g.1]
      · rw [D2 9 5 (by decide), g5]
        unfold roM
        rw [up_eq, E 61 16 (by decide), hR.g.2.1]
      · rw [D2 9 6 (by decide), C0 9 6 (by omega), tr 17 (by decide) (by decide), (tm 17).2.2 (by decide), C0 61 17 (by omega)]
        exact hR.g.2.2
  · exact SI_call (RC := ev_r94) (RM := ev_r95) rfl rfl yc94_0 yc95_0 f_a2 f_a2 hin (t94_un hp rx hx) (t95_un hJ.2.1 rx (by rw [← hP.1.2]; exact hx)) rfl hS
theorem lod_c {m : Nat → Nat → Int} {S q q' i : Nat} (h : q' < S ∨ S + 3 < q') : lod m S q q' i = m q' i := by
  unfold lod
  rw [if_neg (by omega), if_neg (by omega), if_neg (by omega), if_neg (by omega)]
theorem lod_at {m : Nat → Nat → Int} {S q i : Nat} (hi : i < 18) : cV (lod m S q) S i = m q i := by
  unfold cV lod
  by_cases c1 : i < 5
  · rw [if_pos c1, if_pos ⟨rfl, c1⟩]
  · rw [if_neg c1]
    by_cases c2 : i < 10
    · rw [if_pos c2, if_neg (by omega), if_pos ⟨rfl, by omega⟩, show i - 5 + 5 = i by omega]
    · rw [if_neg c2]
      by_cases c3 : i < 15
      · rw [if_pos c3, if_neg (by omega), if_neg (by omega), if_pos ⟨rfl, by omega⟩, show i - 10 + 10 = i by omega]
      · rw [if_neg c3, if_neg (by omega), if_neg (by omega), if_neg (by omega), if_pos ⟨rfl, by omega, by omega⟩, show i - 11 + 11 = i by omega]
theorem lay_at {m : Nat → Nat → Int} {c s q d k : Nat} (hk : k < 18) : lay m c s q d q (d + k) = m c (s + k) := by
  unfold lay
  rw [if_pos ⟨rfl, by omega, by omega⟩, show d + k - d = k by omega]
theorem SI_undo {hc : ev_H} (hin : y_in yG hc) (hS : SI (gi hc)) : ∃ rr hc1 fs1 hc2, (-2147483648 ≤ rr ∧ rr ≤ 2147483647) ∧ f_M 99 [.ref 0] hc (some (fi rr)) hc1 ∧ hc1[55]? = some (.inr (.inr (10, fs1))) ∧ f_M 100 [.ref 55] hc1 (some (fi rr)) hc2 ∧ y_in yG hc2 ∧ SI (gi hc2) ∧ y_un yct99_0.2.2 hc hc1 ∧ y_un yct100_0.2.2 hc1 hc2 := by
  obtain ⟨hP, hR, hA, hK⟩ := id hS
  have hn := hP.2.1.1
  have hp := hP.2.1.2
  have hJ := hR.j hP
  obtain ⟨hb, ⟨a1, a2, a3⟩, h4⟩ := id hA
  by_cases h0 : gi hc 17 2 < 1
  · exact SI_call (RC := ev_r99) (RM := ev_r100) rfl rfl yc99_0 yc100_0 f_a1 f_a1 hin (t99_no a1 a2 h0) (t100_none (by omega)) rfl hS
  · have C0 : ∀ q i, (q < 9 ∨ 12 < q) → ¬ (q = 17 ∧ i = 2) → tbC (gi hc) q i = gi hc q i := fun q i h1 h2 => by unfold tbC; rw [lod_c (by omega), up_ne h2]
    have c2 : tbC (gi hc) 17 2 = gi hc 17 2 - 1 := by unfold tbC; rw [lod_c (by omega), up_eq]
    refine SI_call (RC := ev_r99) (RM := ev_r100) rfl rfl yc99_0 yc100_0 f_a1 f_a1 hin (t99_ok a1 a2 h0) (t100_ok (by rw [C0 55 17 (by omega) (by omega)]; exact a3) (by rw [C0 55 16 (by omega) (by omega)]; omega) (by rw [C0 55 16 (by omega) (by omega)]; omega)) (by rw [c2, C0 55 16 (by omega) (by omega), hb]) ?_
    have r17 : ((gi hc 55 17 + 13) % 14).toNat = ((gi hc 55 17 + 14 - gi hc 55 16 + ((gi hc 17 2 - 1).toNat : Int)) % 14).toNat := by omega
    have D : ∀ q i, q ≠ 61 → unM (tbC (gi hc)) q i = up (up (tbC (gi hc)) 55 16 (tbC (gi hc) 55 16 - 1)) 55 17 ((tbC (gi hc) 55 17 + 13) % 14) q i := fun q i hq => by unfold unM; rw [lay_ne hq]
    have D0 : ∀ q i, q ≠ 61 → ¬ (q = 55 ∧ (i = 16 ∨ i = 17)) → unM (tbC (gi hc)) q i = tbC (gi hc) q i := fun q i h1 h2 => by rw [D q i h1, up_ne (by omega), up_ne (by omega)]
    have D1 : ∀ q i, (q < 9 ∨ 12 < q) → ¬ (q = 17 ∧ i = 2) → q ≠ 61 → ¬ (q = 55 ∧ (i = 16 ∨ i = 17)) → unM (tbC (gi hc)) q i = gi hc q i := fun q i h1 h2 h3 h5 => by rw [D0 q i h3 h5, C0 q i h1 h2]
    have u16 : unM (tbC (gi hc)) 55 16 = gi hc 55 16 - 1 := by rw [D 55 16 (by decide), up_ne (by decide), up_eq, C0 55 16 (by omega) (by omega)]
    have u17 : unM (tbC (gi hc)) 55 17 = (gi hc 55 17 + 13) % 14 := by rw [D 55 17 (by decide), up_eq, C0 55 17 (by omega) (by omega)]
    have v2 : unM (tbC (gi hc)) 17 2 = gi hc 17 2 - 1 := by rw [D0 17 2 (by decide) (by omega), c2]
    have v1 : unM (tbC (gi hc)) 17 1 = gi hc 17 1 := D1 17 1 (by omega) (by omega) (by omega) (by omega)
    have e5 := D1 3 5 (by omega) (by omega) (by omega) (by omega)
    have e6 := D1 3 6 (by omega) (by omega) (by omega) (by omega)
    refine ⟨PR_congr hP (fun q i hq => D1 q i (by omega) (by omega) (by omega) (by omega)), ?_, ⟨by rw [v2, u16, hb], by rw [v1, v2, u17]; exact ⟨a1, by omega, by omega⟩, fun i hi => ?_⟩, KR_congr hK e5 e6 (fun q i hq _ _ _ _ => D1 q i (by omega) (by omega) (by omega) (by omega))⟩
    · refine sR_congr (h4 (gi hc 17 2 - 1).toNat (by omega)) e5 e6 (fun k hk => ?_) (fun k hk => ?_)
      · have e1 : cV (unM (tbC (gi hc))) 9 k = cV (tbC (gi hc)) 9 k := cV_congr (fun i _ => D0 _ _ (by omega) (by omega)) (fun i _ => D0 _ _ (by omega) (by omega)) (fun i _ => D0 _ _ (by omega) (by omega)) (fun i _ _ => D0 _ _ (by omega) (by omega)) k hk
        rw [e1]
        unfold tbC
        rw [lod_at hk, up_ne (by omega)]
        congr 3
        omega
      · show unM (tbC (gi hc)) 61 (0 + k) = gi hc 65 (18 * ((gi hc 55 17 + 14 - gi hc 55 16 + ((gi hc 17 2 - 1).toNat : Int)) % 14).toNat + k)
        rw [← r17]
        unfold unM
        rw [lay_at hk, up_nc (by decide), up_nc (by decide), C0 55 17 (by omega) (by omega), C0 65 _ (by omega) (by omega)]
    · rw [v2] at hi
      have jd : ((unM (tbC (gi hc)) 55 17 + 14 - unM (tbC (gi hc)) 55 16 + i) % 14).toNat = ((gi hc 55 17 + 14 - gi hc 55 16 + i) % 14).toNat := by rw [u16, u17]; omega
      rw [v1, jd]
      exact sR_congr (h4 i (by omega)) e5 e6 (fun k hk => D1 _ _ (by omega) (by omega) (by omega) (by omega)) (fun k hk => D1 _ _ (by omega) (by omega) (by omega) (by omega))
theorem SI_kp {hc : ev_H} (hin : y_in yG hc) (hS : SI (gi hc)) {x : Int} (rx : -2147483648 ≤ x ∧ x ≤ 2147483647) : ∃ rr hc1 fs1 hc2, (-2147483648 ≤ rr ∧ rr ≤ 2147483647) ∧ f_M 194 [.ref 0, fi x] hc (some (fi rr)) hc1 ∧ hc1[55]? = some (.inr (.inr (10, fs1))) ∧ f_M 195 [.ref 55, fi x] hc1 (some (fi rr)) hc2 ∧ y_in yG hc2 ∧ SI (gi hc2) ∧ y_un yct194_0.2.2 hc hc1 ∧ y_un yct195_0.2.2 hc1 hc2 := by
  obtain ⟨hP, hR, hA, hK⟩ := id hS
  have hn := hP.2.1.1
  have hp := hP.2.1.2
  have hJ := hR.j hP
  by_cases h0 : 0 ≤ x ∧ x < 2
  · have C0 : ∀ q i, q ≠ 37 → q ≠ 35 + x.toNat → keC (gi hc) x q i = gi hc q i := fun q i h1 h2 => by unfold keC; rw [up_nc h1, sav_ne h2]
    refine SI_call (RC := ev_r194) (RM := ev_r195) rfl rfl yc194_0 yc195_0 f_a2 f_a2 hin (t194_ok rx h0) (t195_ok rx (by omega)) (by rw [C0 9 6 (by omega) (by omega), C0 61 17 (by omega) (by omega)]; exact hR.g.2.2) ?_
    have D0 : ∀ q i, q ≠ 70 → q ≠ 71 → keM (keC (gi hc) x) x q i = keC (gi hc) x q i := fun q i h1 h2 => by unfold keM; rw [lay_ne h2, up_nc h1]
    have D1 : ∀ q i, q ≠ 37 → q ≠ 35 + x.toNat → q ≠ 70 → q ≠ 71 → keM (keC (gi hc) x) x q i = gi hc q i := fun q i h1 h2 h3 h4 => by rw [D0 q i h3 h4, C0 q i h1 h2]
    have e5 := D1 3 5 (by omega) (by omega) (by omega) (by omega)
    have e6 := D1 3 6 (by omega) (by omega) (by omega) (by omega)
    obtain ⟨hb, hr, h4⟩ := hA
    refine ⟨PR_congr hP (fun q i hq => D1 q i (by omega) (by omega) (by omega) (by omega)), sR_congr hR e5 e6 (cV_congr (fun i _ => D1 _ _ (by omega) (by omega) (by omega) (by omega)) (fun i _ => D1 _ _ (by omega) (by omega) (by omega) (by omega)) (fun i _ => D1 _ _ (by omega) (by omega) (by omega) (by omega)) (fun i _ _ => D1 _ _ (by omega) (by omega) (by omega) (by omega))) (fun i hi => D1 _ _ (by omega) (by omega) (by omega) (by omega)), ?_, fun s hs => ?_⟩
    · have b1 := D1 17 1 (by omega) (by omega) (by omega) (by omega)
      have b2 := D1 17 2 (by omega) (by omega) (by omega) (by omega)
      have b3 := D1 55 16 (by omega) (by omega) (by omega) (by omega)
      have b4 := D1 55 17 (by omega) (by omega) (by omega) (by omega)
      refine ⟨by rw [b2, b3]; exact hb, by rw [b1, b2, b4]; exact hr, fun i hi => ?_⟩
      rw [b2] at hi
      rw [b1, b3, b4]
      exact sR_congr (h4 i hi) e5 e6 (fun k hk => D1 _ _ (by omega) (by omega) (by omega) (by omega)) (fun k hk => D1 _ _ (by omega) (by omega) (by omega) (by omega))
    · by_cases c : s = x.toNat
      · have k1 : keM (keC (gi hc) x) x 37 s = 1 := by rw [D0 37 s (by decide) (by decide)]; unfold keC; rw [c, up_eq]
        have k2 : keM (keC (gi hc) x) x 70 s = 1 := by unfold keM; rw [lay_ne (by decide), c, up_eq]
        refine ⟨by rw [k1, k2], fun _ => sR_congr hR e5 e6 (fun k hk => ?_) (fun k hk => ?_)⟩
        · rw [D0 (35 + s) k (by omega) (by omega)]
          unfold keC
          rw [up_nc (by omega), sav_row hk, if_pos (by omega)]
        · show keM (keC (gi hc) x) x 71 (18 * s + k) = gi hc 61 (0 + k)
          unfold keM
          rw [c, lay_at hk, up_nc (by decide), C0 61 _ (by omega) (by omega)]
      · have k1 : keM (keC (gi hc) x) x 37 s = gi hc 37 s := by rw [D0 37 s (by decide) (by decide)]; unfold keC; rw [up_ne (by omega), sav_ne (by omega)]
        have k2 : keM (keC (gi hc) x) x 70 s = gi hc 70 s := by unfold keM; rw [lay_ne (by decide), up_ne (by omega), C0 70 s (by omega) (by omega)]
        obtain ⟨z1, z2⟩ := hK s hs
        refine ⟨by rw [k1, k2]; exact z1, fun hn9 => sR_congr (z2 (by rw [← k1]; exact hn9)) e5 e6 (fun k hk => D1 _ _ (by omega) (by omega) (by omega) (by omega)) (fun k hk => ?_)⟩
        show keM (keC (gi hc) x) x 71 (18 * s + k) = gi hc 71 (18 * s + k)
        unfold keM lay
        rw [if_neg (by omega), up_nc (by decide), C0 71 _ (by omega) (by omega)]
  · exact SI_call (RC := ev_r194) (RM := ev_r195) rfl rfl yc194_0 yc195_0 f_a2 f_a2 hin (t194_no rx h0) (t195_out rx (by omega)) rfl hS
theorem SI_again {hc : ev_H} (hin : y_in yG hc) (hS : SI (gi hc)) {x : Int} (rx : -2147483648 ≤ x ∧ x ≤ 2147483647) : ∃ rr hc1 fs1 hc2, (-2147483648 ≤ rr ∧ rr ≤ 2147483647) ∧ f_M 197 [.ref 0, fi x] hc (some (fi rr)) hc1 ∧ hc1[55]? = some (.inr (.inr (10, fs1))) ∧ f_M 198 [.ref 55, fi x] hc1 (some (fi rr)) hc2 ∧ y_in yG hc2 ∧ SI (gi hc2) ∧ y_un yct197_0.2.2 hc hc1 ∧ y_un yct198_0.2.2 hc1 hc2 := by
  obtain ⟨hP, hR, hA, hK⟩ := id hS
  have hn := hP.2.1.1
  have hp := hP.2.1.2
  have hJ := hR.j hP
  by_cases h0 : 0 ≤ x ∧ x < 2
  · obtain ⟨z1, z2⟩ := hK x.toNat (by omega)
    by_cases h1 : gi hc 37 x.toNat = 0
    · exact SI_call (RC := ev_r197) (RM := ev_r198) rfl rfl yc197_0 yc198_0 f_a2 f_a2 hin (t197_st rx h0 h1) (t198_none rx (by omega) (kv := gi hc 70 x.toNat) rfl (gi_r _ _ _) (by rw [← z1]; exact h1)) rfl hS
    · have C0 : ∀ q i, (q < 9 ∨ 12 < q) → q ≠ 17 → agC (gi hc) x q i = gi hc q i := fun q i h1 h2 => by unfold agC loC; rw [up_nc h2, up_nc h2, lod_c (by omega)]
      have c9 : ∀ k, k < 18 → cV (agC (gi hc) x) 9 k = gi hc (35 + x.toNat) k := fun k hk => by
        have e1 : cV (agC (gi hc) x) 9 k = cV (loC (gi hc) x) 9 k := cV_congr (fun i _ => by unfold agC; rw [up_nc (by decide), up_nc (by decide)]) (fun i _ => by unfold agC; rw [up_nc (by decide), up_nc (by decide)]) (fun i _ => by unfold agC; rw [up_nc (by decide), up_nc (by decide)]) (fun i _ _ => by unfold agC; rw [up_nc (by decide), up_nc (by decide)]) k hk
        rw [e1]
        unfold loC
        exact lod_at hk
      have Z := z2 h1
      refine SI_call (RC := ev_r197) (RM := ev_r198) rfl rfl yc197_0 yc198_0 f_a2 f_a2 hin (t197_ok rx h0 h1) (t198_ok rx (by omega) (kv := gi hc 70 x.toNat) (C0 70 _ (by omega) (by omega)) (gi_r _ _ _) (by rw [← z1]; exact h1)) ?_ ?_
      · rw [C0 71 _ (by omega) (by omega)]
        exact (show agC (gi hc) x 9 6 = cV (agC (gi hc) x) 9 17 from rfl).trans ((c9 17 (by decide)).trans Z.2.1.2.2)
      · have D0 : ∀ q i, q ≠ 61 → ¬ (q = 55 ∧ i = 16) → agM (agC (gi hc) x) x q i = agC (gi hc) x q i := fun q i h1 h2 => by unfold agM; rw [up_ne h2, lay_ne h1]
        have D1 : ∀ q i, (q < 9 ∨ 12 < q) → q ≠ 17 → q ≠ 61 → ¬ (q = 55 ∧ i = 16) → agM (agC (gi hc) x) x q i = gi hc q i := fun q i h1 h2 h3 h4 => by rw [D0 q i h3 h4, C0 q i h1 h2]
        have e5 := D1 3 5 (by omega) (by omega) (by omega) (by omega)
        have e6 := D1 3 6 (by omega) (by omega) (by omega) (by omega)
        have b1 : agM (agC (gi hc) x) x 17 1 = 0 := by rw [D0 17 1 (by decide) (by decide)]; unfold agC; rw [up_ne (by decide), up_eq]
        have b2 : agM (agC (gi hc) x) x 17 2 = 0 := by rw [D0 17 2 (by decide) (by decide)]; unfold agC; rw [up_eq]
        have b3 : agM (agC (gi hc) x) x 55 16 = 0 := by unfold agM; rw [up_eq]
        have b4 : agM (agC (gi hc) x) x 55 17 = gi hc 55 17 := D1 55 17 (by omega) (by omega) (by omega) (by omega)
        refine ⟨PR_congr hP (fun q i hq => D1 q i (by omega) (by omega) (by omega) (by omega)), sR_congr Z e5 e6 (fun k hk => ?_) (fun k hk => ?_), ⟨by rw [b2, b3], by rw [b1, b2, b4]; exact ⟨by decide, by decide, hA.2.1.2.2⟩, fun i hi => by rw [b2] at hi; omega⟩, KR_congr hK e5 e6 (fun q i hq _ _ _ _ => D1 q i (by omega) (by omega) (by omega) (by omega))⟩
        · rw [← c9 k hk]
          exact cV_congr (fun i _ => D0 _ _ (by omega) (by omega)) (fun i _ => D0 _ _ (by omega) (by omega)) (fun i _ => D0 _ _ (by omega) (by omega)) (fun i _ _ => D0 _ _ (by omega) (by omega)) k hk
        · show agM (agC (gi hc) x) x 61 (0 + k) = gi hc 71 (18 * x.toNat + k)
          unfold agM
          rw [up_nc (by decide), lay_at hk, C0 71 _ (by omega) (by omega)]
  · exact SI_call (RC := ev_r197) (RM := ev_r198) rfl rfl yc197_0 yc198_0 f_a2 f_a2 hin (t197_un rx h0) (t198_out rx (by omega)) rfl hS
theorem as1_b {m : Nat → Nat → Int} {x : Int} {i : Nat} {s a : Int} (h : -2147483648 ≤ a ∧ a ≤ 2147483647) : as1 m x i s a = bS (decide (x < m 55 1 ∧ ¬ iA (iR (m 61 16) x) 1 = 1 ∧ m 58 i ≤ m 61 17 ∧ m 61 17 ≤ m 59 i)) s a := by
  unfold as1
  by_cases c1 : x < m 55 1
  · rw [if_pos c1]
    by_cases c2 : ¬ iA (iR (m 61 16) x) 1 = 1 ∧ m 58 i ≤ m 61 17 ∧ m 61 17 ≤ m 59 i
    · rw [if_pos c2, decide_eq_true ⟨c1, c2⟩]; rfl
    · rw [if_neg c2, decide_eq_false (fun z => c2 z.2), iO_0 h]; rfl
  · rw [if_neg c1, decide_eq_false (fun z => c1 z.1)]; rfl
theorem sy1_b {m : Nat → Nat → Int} {x : Int} {i : Nat} {s a : Int} (h : -2147483648 ≤ a ∧ a ≤ 2147483647) : sy1 m x i s a = bS (decide (x < m 55 1 ∧ ¬ sbM0 m (m 61 i) = 0)) s a := by
  unfold sy1
  by_cases c1 : x < m 55 1
  · rw [if_pos c1]
    by_cases c2 : ¬ sbM0 m (m 61 i) = 0
    · rw [if_pos c2, decide_eq_true ⟨c1, c2⟩]; rfl
    · rw [if_neg c2, decide_eq_false (fun z => c2 z.2), iO_0 h]; rfl
  · rw [if_neg c1, decide_eq_false (fun z => c1 z.1)]; rfl
theorem as_eq {m : Nat → Nat → Int} (hP : PR m) (hR : SR0 m) : ngS m 9 (m 9 6) = as1 m 4 4 (iS 1 4) (as1 m 3 3 (iS 1 3) (as1 m 2 2 (iS 1 2) (as1 m 1 1 (iS 1 1) (as1 m 0 0 (iS 1 0) (0))))) := by
  have e : ∀ (i : Nat) (x : Int), i < 5 → (i : Int) = x → nB m 9 (m 9 6) x = decide (x < m 55 1 ∧ ¬ iA (iR (m 61 16) x) 1 = 1 ∧ m 58 i ≤ m 61 17 ∧ m 61 17 ≤ m 59 i) := fun i x hi hx => by
    by_cases c : (i : Int) < m 3 6
    · rw [hR.nBE hP hi c hx, hR.g.2.2]
      exact decide_eq_decide.mpr ⟨fun z => ⟨by rw [← hx, ← hP.1.2]; exact c, z⟩, fun z => z.2⟩
    · rw [SR0.nBo c hx]
      exact (decide_eq_false (fun z => c (by rw [hP.1.2, hx]; exact z.1))).symm
  rw [ngS_b, e 0 0 (by decide) rfl, e 1 1 (by decide) rfl, e 2 2 (by decide) rfl, e 3 3 (by decide) rfl, e 4 4 (by decide) rfl]
  rw [as1_b (i := 0) r0, as1_b (i := 1) (bS_r r0), as1_b (i := 2) (bS_r (bS_r r0)), as1_b (i := 3) (bS_r (bS_r (bS_r r0))), as1_b (i := 4) (bS_r (bS_r (bS_r (bS_r r0))))]
  rfl
theorem sy_eq {m : Nat → Nat → Int} (hP : PR m) (hR : SR0 m) : sbS m 10 = sy1 m 4 4 (iS 1 4) (sy1 m 3 3 (iS 1 3) (sy1 m 2 2 (iS 1 2) (sy1 m 1 1 (iS 1 1) (sy1 m 0 0 (iS 1 0) (0))))) := by
  have e : ∀ (i : Nat) (x : Int), i < 5 → (i : Int) = x → sbP m 10 i = decide (x < m 55 1 ∧ ¬ sbM0 m (m 61 i) = 0) := fun i x hi hx => by
    by_cases c : (i : Int) < m 3 6
    · have h9 := hR.sbE hP hi c
      rw [Nat.zero_add] at h9
      rw [h9]
      have c' : x < m 55 1 := by rw [← hx, ← hP.1.2]; exact c
      cases sbP m 10 i
      · exact (decide_eq_false (fun z => z.2 rfl)).symm
      · exact (decide_eq_true ⟨c', by decide⟩).symm
    · have h9 : sbP m 10 i = false := decide_eq_false (fun z => z.1 (hR.o hi (by omega)).1)
      rw [h9]
      exact (decide_eq_false (fun z => c (by rw [hP.1.2, hx]; exact z.1))).symm
  rw [sbS_b, e 0 0 (by decide) rfl, e 1 1 (by decide) rfl, e 2 2 (by decide) rfl, e 3 3 (by decide) rfl, e 4 4 (by decide) rfl]
  rw [sy1_b (i := 0) r0, sy1_b (i := 1) (bS_r r0), sy1_b (i := 2) (bS_r (bS_r r0)), sy1_b (i := 3) (bS_r (bS_r (bS_r r0))), sy1_b (i := 4) (bS_r (bS_r (bS_r (bS_r r0))))]
  rfl
theorem aw_eq {m : Nat → Nat → Int} (hP : PR m) (hR : SR0 m) : ((((0 + (m 12 0)) + (m 12 1)) + (m 12 2)) + (m 12 3)) + (m 12 4) = aw1 m 14 4 (aw1 m 13 3 (aw1 m 12 2 (aw1 m 11 1 (aw1 m 10 0 (0))))) := by
  have e : ∀ (i j : Nat) (x : Int) (b : Int), i < 5 → (i : Int) = x → 10 + i = j → aw1 m j x b = b + m 12 i := fun i j x b hi hx hj => by
    unfold aw1
    by_cases c : (i : Int) < m 3 6
    · rw [if_pos (by rw [← hx, ← hP.1.2]; exact c), (hR.w hi c).2.2, hj]
    · rw [if_neg (fun z => c (by rw [hP.1.2, hx]; exact z)), (hR.o hi (by omega)).2, Int.add_zero]
  rw [e 0 10 0 _ (by decide) rfl rfl, e 1 11 1 _ (by decide) rfl rfl, e 2 12 2 _ (by decide) rfl rfl, e 3 13 3 _ (by decide) rfl rfl, e 4 14 4 _ (by decide) rfl rfl]
theorem SI_count {hc : ev_H} (hin : y_in yG hc) (hT : TR (gi hc)) (hC : CR (gi hc)) (hS : SI (gi hc)) {x : Int} (rx : -2147483648 ≤ x ∧ x ≤ 2147483647) : ∃ rr hc1 fs1 hc2, (-2147483648 ≤ rr ∧ rr ≤ 2147483647) ∧ f_M 200 [.ref 0, fi x] hc (some (fi rr)) hc1 ∧ hc1[55]? = some (.inr (.inr (10, fs1))) ∧ f_M 201 [.ref 55, fi x] hc1 (some (fi rr)) hc2 ∧ y_in yG hc2 ∧ SI (gi hc2) ∧ y_un yct200_0.2.2 hc hc1 ∧ y_un yct201_0.2.2 hc1 hc2 := by
  obtain ⟨hP, hR, hA, hK⟩ := id hS
  have hn := hP.2.1.1
  have hp := hP.2.1.2
  have hJ := hR.j hP
  refine SI_call (RC := ev_r200) (RM := ev_r201) rfl rfl yc200_0 yc201_0 f_a2 f_a2 hin (t200 hn hp rx) (t201 hJ rx) ?_ hS
  unfold cnC cnM cnS
  rw [hT.1, hP.1.1, hP.1.2, as_eq hP hR, sy_eq hP hR, aw_eq hP hR, hR.g.2.2, hA.1, show gi hc 38 2 = gi hc 55 21 from hC]
theorem hallC_w {m : Nat → Nat → Int} {i : Nat} (hi : i < 5) : hallC m 10 i = -9 := by
  have : i = 0 ∨ i = 1 ∨ i = 2 ∨ i = 3 ∨ i = 4 := by omega
  rcases this with rfl | rfl | rfl | rfl | rfl <;> rfl
theorem hallC_h {m : Nat → Nat → Int} {i : Nat} (hi : i < 5) : hallC m 11 i = 0 := by
  have : i = 0 ∨ i = 1 ∨ i = 2 ∨ i = 3 ∨ i = 4 := by omega
  rcases this with rfl | rfl | rfl | rfl | rfl <;> rfl
theorem hallC_a {m : Nat → Nat → Int} {i : Nat} (hi : i < 5) : hallC m 12 i = 0 := by
  have : i = 0 ∨ i = 1 ∨ i = 2 ∨ i = 3 ∨ i = 4 := by omega
  rcases this with rfl | rfl | rfl | rfl | rfl <;> rfl
theorem SI_hall {hc hc1 hc2 : ev_H} (un1 : y_un yct38_0.2.2 hc hc1) (un2 : y_un yct39_0.2.2 hc1 hc2) (hS : SI (gi hc)) (h : (gi hc1 = gi hc ∧ y_un yct27_0.2.2 hc1 hc2) ∨ ∃ ns ps hcC hcM, pV ns ps ∧ cP (gi hcC) ns ps ∧ y_un yct31_0.2.2 hc hcC ∧ gi hc1 = hallC (gi hcC) ∧ pOK (gi hcM) ns ps ∧ y_un yct27_0.2.2 hc1 hcM ∧ gi hc2 = hallM (gi hcM)) : SI (gi hc2) := by
  rcases h with ⟨e1, u⟩ | ⟨ns, ps, hcC, hcM, hV, c1, u1, e1, p1, u2, e2⟩
  · have k := g_dis_ok (FP := SI_FP) (by decide) u
    rw [e1] at k
    exact SI_keep k hS
  · obtain ⟨c35, c36, cn, cp⟩ := c1
    obtain ⟨p10, p11, pn, pp⟩ := p1
    obtain ⟨v1, v2, v3, v4⟩ := hV
    have k := g_dis_ok (FP := [(3, 5, 6), (4, 0, 3), (5, 0, 3), (6, 0, 4), (7, 0, 4), (8, 0, 4), (9, 4, 6), (10, 0, 4), (11, 0, 4), (12, 0, 4), (17, 1, 2), (37, 0, 1), (55, 17, 17)]) (by decide) un2
    have kC := g_dis_ok (FP := [(55, 17, 17)]) (by decide) un1
    have a35 : gi hc2 3 5 = (ns.length : Int) := (k.at 0 rfl 5 (by decide) (by decide)).trans (by rw [e1]; exact c35)
    have a36 : gi hc2 3 6 = (ps.length : Int) := (k.at 0 rfl 6 (by decide) (by decide)).trans (by rw [e1]; exact c36)
    have m0 : gi hc2 55 0 = (ns.length : Int) := by rw [e2]; exact p10
    have m1 : gi hc2 55 1 = (ps.length : Int) := by rw [e2]; exact p11
    have x17 : gi hc2 55 17 = gi hc 55 17 := (k.at 12 rfl 17 (by decide) (by decide)).trans (kC.at 0 rfl 17 (by decide) (by decide))
    refine ⟨⟨⟨by rw [a35, m0], by rw [a36, m1]⟩, ⟨by rw [a35]; omega, by rw [a36]; omega⟩, fun q hq hq2 => ?_, fun p hp hp2 => ?_⟩, SR0_of (fun i hi hp => ?_) ⟨?_, ?_, ?_⟩ (fun i hi => ?_) (fun i hi hp => ?_), ⟨?_, ⟨?_, ?_, ?_⟩, fun i hi => ?_⟩, fun s hs => ?_⟩
    · rw [a35] at hq2
      have hl : q < ns.length := by omega
      obtain ⟨y1, y2⟩ := cn q ns[q] (List.getElem?_eq_getElem hl)
      obtain ⟨z1, z2⟩ := pn q ns[q] (List.getElem?_eq_getElem hl)
      have b4 : gi hc2 4 q = gi hcC 4 q := (k.at 1 rfl q (Nat.zero_le _) (by show q ≤ 3; omega)).trans (by rw [e1]; rfl)
      have b5 : gi hc2 5 q = gi hcC 5 q := (k.at 2 rfl q (Nat.zero_le _) (by show q ≤ 3; omega)).trans (by rw [e1]; rfl)
      have d : gi hc2 56 q = gi hcM 62 (2 * q) ∧ gi hc2 57 q = gi hcM 62 (2 * q + 1) := by
        rw [e2]
        have : q = 0 ∨ q = 1 ∨ q = 2 ∨ q = 3 := by omega
        rcases this with rfl | rfl | rfl | rfl <;> exact ⟨rfl, rfl⟩
      rw [b4, b5, d.1, d.2, y1, y2, z1, z2]
      exact ⟨rfl, rfl⟩
    · rw [a36] at hp2
      have hl : p < ps.length := by omega
      obtain ⟨y1, y2, y3⟩ := cp p ps[p] (List.getElem?_eq_getElem hl)
      obtain ⟨z1, z2, z3⟩ := pp p ps[p] (List.getElem?_eq_getElem hl)
      have b6 : gi hc2 6 p = gi hcC 6 p := (k.at 3 rfl p (Nat.zero_le _) (by show p ≤ 4; omega)).trans (by rw [e1]; rfl)
      have b7 : gi hc2 7 p = gi hcC 7 p := (k.at 4 rfl p (Nat.zero_le _) (by show p ≤ 4; omega)).trans (by rw [e1]; rfl)
      have b8 : gi hc2 8 p = gi hcC 8 p := (k.at 5 rfl p (Nat.zero_le _) (by show p ≤ 4; omega)).trans (by rw [e1]; rfl)
      have d : gi hc2 58 p = gi hcM 63 (3 * p) ∧ gi hc2 59 p = gi hcM 63 (3 * p + 1) ∧ gi hc2 60 p = iA (gi hcM 63 (3 * p + 2)) (iS 1 (gi hcM 55 10) - 1) := by
        rw [e2]
        have : p = 0 ∨ p = 1 ∨ p = 2 ∨ p = 3 ∨ p = 4 := by omega
        rcases this with rfl | rfl | rfl | rfl | rfl <;> exact ⟨rfl, rfl, rfl⟩
      rw [b6, b7, b8, d.1, d.2.1, d.2.2, y1, y2, y3, z1, z2, z3, a35, p10]
      exact ⟨rfl, rfl, rfl⟩
    · have w1 : gi hc2 10 i = -9 := (k.at 7 rfl i (Nat.zero_le _) (by show i ≤ 4; omega)).trans (by rw [e1]; exact hallC_w hi)
      have w2 : gi hc2 11 i = 0 := (k.at 8 rfl i (Nat.zero_le _) (by show i ≤ 4; omega)).trans (by rw [e1]; exact hallC_h hi)
      have w3 : gi hc2 12 i = 0 := (k.at 9 rfl i (Nat.zero_le _) (by show i ≤ 4; omega)).trans (by rw [e1]; exact hallC_a hi)
      rw [w1, w2, w3, e2, Nat.zero_add]
      have : i = 0 ∨ i = 1 ∨ i = 2 ∨ i = 3 ∨ i = 4 := by omega
      rcases this with rfl | rfl | rfl | rfl | rfl <;> exact ⟨rfl, rfl, rfl⟩
    · exact (k.at 6 rfl 4 (by decide) (by decide)).trans (by rw [e1, e2]; rfl)
    · exact (k.at 6 rfl 5 (by decide) (by decide)).trans (by rw [e1, e2]; rfl)
    · exact (k.at 6 rfl 6 (by decide) (by decide)).trans (by rw [e1, e2]; rfl)
    · exact Or.inl ((k.at 7 rfl i (Nat.zero_le _) (by show i ≤ 4; omega)).trans (by rw [e1]; exact hallC_w hi))
    · exact ⟨(k.at 7 rfl i (Nat.zero_le _) (by show i ≤ 4; omega)).trans (by rw [e1]; exact hallC_w hi), (k.at 9 rfl i (Nat.zero_le _) (by show i ≤ 4; omega)).trans (by rw [e1]; exact hallC_a hi)⟩
    · exact (k.at 10 rfl 2 (by decide) (by decide)).trans (by rw [e1, e2]; rfl)
    · rw [show gi hc2 17 1 = 0 from (k.at 10 rfl 1 (by decide) (by decide)).trans (by rw [e1]; rfl)]; decide
    · rw [show gi hc2 17 2 = 0 from (k.at 10 rfl 2 (by decide) (by decide)).trans (by rw [e1]; rfl)]; decide
    · rw [x17]; exact hS.2.2.1.2.1.2.2
    · rw [show gi hc2 17 2 = 0 from (k.at 10 rfl 2 (by decide) (by decide)).trans (by rw [e1]; rfl)] at hi
      omega
    · have t1 : gi hc2 37 s = 0 := (k.at 11 rfl s (Nat.zero_le _) (by show s ≤ 1; omega)).trans (by
        rw [e1]
        have : s = 0 ∨ s = 1 := by omega
        rcases this with rfl | rfl <;> rfl)
      have t2 : gi hc2 70 s = 0 := by
        rw [e2]
        have : s = 0 ∨ s = 1 := by omega
        rcases this with rfl | rfl <;> rfl
      exact ⟨by rw [t1, t2], fun z => absurd t1 z⟩
