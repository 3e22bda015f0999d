/-! A MACHINE OVER SYMBOLS: a value is (kind, symbol and 1 or 0, number); kinds 0 int, 1 long, 2 a cell's number, 3 the script, others null or nothing -/
abbrev xv : Type := Nat × Nat × Int
abbrev xE : Type := List (Int × Int × Bool)
abbrev xC : Type := Nat × Nat × Nat × List (List xv)
abbrev xH : Type := Nat × List (List xC)
abbrev xo : Type := Nat × List xv × List xv × xH × xE × Nat × Nat
abbrev xR : Type := Option (List xo)
abbrev xK : Type := List xv → List xv → xH → xE → Nat → Nat → xR
abbrev xM : Type := List xv → xH → xE → xR
def x_vl (ρ : Nat → Int) (v : xv) : Int := match v.2.1 with
  | 0 => v.2.2
  | s + 1 => ρ s + v.2.2
def x_in (ρ : Nat → Int) (v : xv) : Value := match v.1 with
  | 0 => .int (Int32.ofInt (x_vl ρ v))
  | 1 => .long (Int64.ofInt (x_vl ρ v))
  | 2 => .ref (x_vl ρ v).toNat
  | 3 => .retAddr 0
  | _ => .null
def x_ok (n : Nat) (v : xv) : Prop := v.2.1 ≤ n
def x_ext (n : Nat) (ρ ρ' : Nat → Int) : Prop := ∀ i, i < n → ρ' i = ρ i
theorem x_ext.rf {n : Nat} {ρ : Nat → Int} : x_ext n ρ ρ := fun _ _ => rfl
theorem x_ext.tr {n n' : Nat} {ρ ρ' ρ'' : Nat → Int} (h : x_ext n ρ ρ') (hn : n ≤ n') (h' : x_ext n' ρ' ρ'') : x_ext n ρ ρ'' := fun i hi => (h' i (Nat.lt_of_lt_of_le hi hn)).trans (h i hi)
theorem x_vl_ext {n : Nat} {ρ ρ' : Nat → Int} {v : xv} (h : x_ext n ρ ρ') (hv : x_ok n v) : x_vl ρ' v = x_vl ρ v := by
  obtain ⟨k, s, o⟩ := v
  cases s with
  | zero => rfl
  | succ s => show ρ' s + o = ρ s + o; rw [h s hv]
theorem x_in_ext {n : Nat} {ρ ρ' : Nat → Int} {v : xv} (h : x_ext n ρ ρ') (hv : x_ok n v) : x_in ρ' v = x_in ρ v := by
  unfold x_in
  rw [x_vl_ext h hv]
theorem x_map_ext {n : Nat} {ρ ρ' : Nat → Int} {l : List xv} (h : x_ext n ρ ρ') (hv : ∀ v ∈ l, x_ok n v) : l.map (x_in ρ') = l.map (x_in ρ) := List.map_congr_left (fun v hm => x_in_ext h (hv v hm))
def x_s1 (e : Int × Int × Bool) (z : Int) : Prop := (e.1 ≤ z ∧ z ≤ e.2.1) ∨ (e.2.2 = true ∧ z = -9)
def x_sat (ρ : Nat → Int) (env : xE) : Prop := ∀ i e, env[i]? = some e → x_s1 e (ρ i)
/-! lists by number, rows of eight -/
noncomputable def x_n {α : Type} (l : List α) : Nat → Option α := List.rec (motive := fun _ => Nat → Option α) (fun _ => none) (fun a _ ih i => Nat.rec (motive := fun _ => Option α) (some a) (fun j _ => ih j) i) l
theorem x_n_eq {α : Type} (l : List α) : ∀ i, x_n l i = l[i]? := by
  induction l with
  | nil => intro i; rfl
  | cons a r ih =>
    intro i
    cases i with
    | zero => rfl
    | succ j => exact ih j
noncomputable def x_u {α : Type} (v : α) (l : List α) : Nat → List α := List.rec (motive := fun _ => Nat → List α) (fun _ => []) (fun a r ih i => Nat.rec (motive := fun _ => List α) (v :: r) (fun j _ => a :: ih j) i) l
theorem x_u_eq {α : Type} (v : α) (l : List α) : ∀ i, x_u v l i = l.set i v := by
  induction l with
  | nil => intro i; rfl
  | cons a r ih =>
    intro i
    cases i with
    | zero => rfl
    | succ j => exact congrArg (a :: ·) (ih j)
noncomputable def x_g {α : Type} (d : List (List α)) (i : Nat) : Option α := match x_n d (i / 8) with
  | some r => x_n r (i % 8)
  | none => none
noncomputable def x_p {α : Type} (d : List (List α)) (i : Nat) (v : α) : List (List α) := match x_n d (i / 8) with
  | some r => x_u (x_u v r (i % 8)) d (i / 8)
  | none => d
theorem x_g_p {α : Type} {d : List (List α)} {i j : Nat} {v w : α} (h : x_g (x_p d i v) j = some w) : (j = i ∧ w = v) ∨ (j ≠ i ∧ x_g d j = some w) := by
  unfold x_g x_p at h
  rw [x_n_eq] at h
  cases hr : x_n d (i / 8) with
  | none =>
    rw [hr] at h
    dsimp only at h
    by_cases hij : j = i
    · subst hij
      rw [x_n_eq] at hr
      rw [hr] at h
      cases h
    · refine Or.inr ⟨hij, ?_⟩
      unfold x_g
      rw [x_n_eq]
      exact h
  | some r =>
    rw [hr] at h
    dsimp only at h
    rw [x_u_eq, x_u_eq, List.getElem?_set] at h
    rw [x_n_eq] at hr
    have hl : i / 8 < d.length := (List.getElem?_eq_some_iff.mp hr).1
    by_cases h8 : i / 8 = j / 8
    · rw [if_pos h8, if_pos hl] at h
      dsimp only at h
      rw [x_n_eq, List.getElem?_set] at h
      by_cases hm : i % 8 = j % 8
      · rw [if_pos hm] at h
        have hij : j = i := by omega
        by_cases hl2 : i % 8 < r.length
        · rw [if_pos hl2] at h
          exact Or.inl ⟨hij, (Option.some.inj h).symm⟩
        · rw [if_neg hl2] at h
          cases h
      · rw [if_neg hm] at h
        refine Or.inr ⟨fun z => hm (by rw [z]), ?_⟩
        unfold x_g
        rw [x_n_eq, ← h8, hr]
        dsimp only
        rw [x_n_eq]
        exact h
    · rw [if_neg h8] at h
      refine Or.inr ⟨fun z => h8 (by rw [z]), ?_⟩
      unfold x_g
      rw [x_n_eq]
      exact h
/-- a new one behind n that there are -/
noncomputable def x_a {α : Type} (n : Nat) (d : List (List α)) (v : α) : Option (List (List α)) := match x_n d (n / 8) with
  | some r => match Nat.beq r.length (n % 8) with
    | true => some (x_u (r ++ [v]) d (n / 8))
    | false => none
  | none => match Nat.beq d.length (n / 8) && Nat.beq (n % 8) 0 with
    | true => some (d ++ [[v]])
    | false => none
theorem x_g_a {α : Type} {n j : Nat} {d d' : List (List α)} {v w : α} (h : x_a n d v = some d') (hw : x_g d' j = some w) : (j = n ∧ w = v) ∨ x_g d j = some w := by
  unfold x_a at h
  cases hr : x_n d (n / 8) with
  | some r =>
    rw [hr] at h
    dsimp only at h
    cases hb : Nat.beq r.length (n % 8) with
    | false => rw [hb] at h; cases h
    | true =>
      rw [hb] at h
      cases h
      have hb := Nat.eq_of_beq_eq_true hb
      unfold x_g at hw
      rw [x_n_eq] at hr
      rw [x_n_eq, x_u_eq, List.getElem?_set] at hw
      have hl : n / 8 < d.length := (List.getElem?_eq_some_iff.mp hr).1
      by_cases h8 : n / 8 = j / 8
      · rw [if_pos h8, if_pos hl] at hw
        dsimp only at hw
        rw [x_n_eq, List.getElem?_append] at hw
        by_cases hm : j % 8 < r.length
        · rw [if_pos hm] at hw
          refine Or.inr ?_
          unfold x_g
          rw [x_n_eq, ← h8, hr]
          dsimp only
          rw [x_n_eq]
          exact hw
        · rw [if_neg hm] at hw
          have hz : j % 8 - r.length < ([v] : List α).length := (List.getElem?_eq_some_iff.mp hw).1
          simp only [List.length_singleton] at hz
          have e : j % 8 - r.length = 0 := by omega
          rw [e] at hw
          exact Or.inl ⟨by omega, (Option.some.inj hw).symm⟩
      · rw [if_neg h8] at hw
        refine Or.inr ?_
        unfold x_g
        rw [x_n_eq]
        exact hw
  | none =>
    rw [hr] at h
    dsimp only at h
    cases hb : (Nat.beq d.length (n / 8) && Nat.beq (n % 8) 0) with
    | false => rw [hb] at h; cases h
    | true =>
      rw [hb] at h
      cases h
      rw [Bool.and_eq_true] at hb
      have h1 := Nat.eq_of_beq_eq_true hb.1
      have h2 := Nat.eq_of_beq_eq_true hb.2
      unfold x_g at hw
      rw [x_n_eq, List.getElem?_append] at hw
      by_cases hm : j / 8 < d.length
      · rw [if_pos hm] at hw
        refine Or.inr ?_
        unfold x_g
        rw [x_n_eq]
        exact hw
      · rw [if_neg hm] at hw
        cases hq : ([[v]] : List (List α))[j / 8 - d.length]? with
        | none => rw [hq] at hw; cases hw
        | some r =>
          rw [hq] at hw
          dsimp only at hw
          have hz : j / 8 - d.length < ([[v]] : List (List α)).length := (List.getElem?_eq_some_iff.mp hq).1
          simp only [List.length_singleton] at hz
          have e : j / 8 - d.length = 0 := by omega
          rw [e] at hq
          cases hq
          rw [x_n_eq] at hw
          have hz2 : j % 8 < ([v] : List α).length := (List.getElem?_eq_some_iff.mp hw).1
          simp only [List.length_singleton] at hz2
          have e2 : j % 8 = 0 := by omega
          rw [e2] at hw
          exact Or.inl ⟨by omega, (Option.some.inj hw).symm⟩
/-! what the symbols' state is on our machine -/
def x_rL (n : Nat) (ρ : Nat → Int) (L : List xv) (Lc : ev_L) : Prop := ∀ k v, L[k]? = some v → v.1 < 4 → x_ok n v ∧ ev_lk Lc k = some (x_in ρ v)
def x_rS (n : Nat) (ρ : Nat → Int) (st : List xv) (stc : List Value) : Prop := stc = st.map (x_in ρ) ∧ ∀ v ∈ st, x_ok n v
def x_rC (n : Nat) (ρ : Nat → Int) (c : xC) (cc : ev_C) : Prop := match c.1 with
  | 0 => ∃ xs : List Int32, cc = .inl (c.2.1, xs) ∧ xs.length = c.2.2.1 ∧ ∀ i v, x_g c.2.2.2 i = some v → v.1 = 0 ∧ x_ok n v ∧ xs[i]? = some (Int32.ofInt (x_vl ρ v))
  | 1 => cc = .inr (.inl ((List.range c.2.2.1).map (fun i => c.2.1 + i)))
  | _ => ∃ fs : List Value, cc = .inr (.inr (c.2.1, fs)) ∧ ∀ i v, x_g c.2.2.2 i = some v → x_ok n v ∧ fs[i]? = some (x_in ρ v)
def x_rH (n : Nat) (ρ : Nat → Int) (h : xH) (hc : ev_H) : Prop := hc.length = h.1 ∧ ∀ q c, x_g h.2 q = some c → ∃ cc, hc[q]? = some cc ∧ x_rC n ρ c cc
def x_rX (n : Nat) (ρ : Nat → Int) (scx : Option (List xv)) (sc : Option (List Int32)) : Prop := sc = scx.map (fun x => x.map (fun v => Int32.ofInt (x_vl ρ v))) ∧ ∀ x, scx = some x → ∀ v ∈ x, v.1 = 0 ∧ x_ok n v
theorem x_ok.up {n n' : Nat} {v : xv} (h : x_ok n v) (hn : n ≤ n') : x_ok n' v := Nat.le_trans h hn
theorem x_rL.up {n n' : Nat} {ρ ρ' : Nat → Int} {L : List xv} {Lc : ev_L} (h : x_rL n ρ L Lc) (he : x_ext n ρ ρ') (hn : n ≤ n') : x_rL n' ρ' L Lc := fun k v hk h4 => by
  obtain ⟨h1, h2⟩ := h k v hk h4
  exact ⟨h1.up hn, by rw [x_in_ext he h1]; exact h2⟩
theorem x_rS.up {n n' : Nat} {ρ ρ' : Nat → Int} {st : List xv} {stc : List Value} (h : x_rS n ρ st stc) (he : x_ext n ρ ρ') (hn : n ≤ n') : x_rS n' ρ' st stc := ⟨by rw [x_map_ext he h.2]; exact h.1, fun v hv => (h.2 v hv).up hn⟩
theorem x_rC.up {n n' : Nat} {ρ ρ' : Nat → Int} {c : xC} {cc : ev_C} (h : x_rC n ρ c cc) (he : x_ext n ρ ρ') (hn : n ≤ n') : x_rC n' ρ' c cc := by
  obtain ⟨t, a, m, d⟩ := c
  match t, h with
  | 0, h =>
    obtain ⟨xs, h1, h2, h3⟩ := h
    refine ⟨xs, h1, h2, fun i v hi => ?_⟩
    obtain ⟨g1, g2, g3⟩ := h3 i v hi
    exact ⟨g1, g2.up hn, by rw [x_vl_ext he g2]; exact g3⟩
  | 1, h => exact h
  | t + 2, h =>
    obtain ⟨fs, h1, h2⟩ := h
    refine ⟨fs, h1, fun i v hi => ?_⟩
    obtain ⟨g1, g2⟩ := h2 i v hi
    exact ⟨g1.up hn, by rw [x_in_ext he g1]; exact g2⟩
theorem x_rH.up {n n' : Nat} {ρ ρ' : Nat → Int} {h : xH} {hc : ev_H} (hh : x_rH n ρ h hc) (he : x_ext n ρ ρ') (hn : n ≤ n') : x_rH n' ρ' h hc := ⟨hh.1, fun q c hq => by
  obtain ⟨cc, h1, h2⟩ := hh.2 q c hq
  exact ⟨cc, h1, h2.up he hn⟩⟩
theorem x_rX.up {n n' : Nat} {ρ ρ' : Nat → Int} {scx : Option (List xv)} {sc : Option (List Int32)} (h : x_rX n ρ scx sc) (he : x_ext n ρ ρ') (hn : n ≤ n') : x_rX n' ρ' scx sc := by
  obtain ⟨h1, h2⟩ := h
  refine ⟨?_, fun x hx v hv => ⟨(h2 x hx v hv).1, (h2 x hx v hv).2.up hn⟩⟩
  cases scx with
  | none => exact h1
  | some x =>
    rw [h1]
    show some _ = some _
    congr 1
    exact List.map_congr_left (fun v hv => by rw [x_vl_ext he (h2 x rfl v hv).2])
/-! runs of our machine, and what the symbols' machine says of them -/
def x_W (sc : Option (List Int32)) (I : ev_I) (pc : Nat) (Lc : ev_L) (stc : List Value) (hc : ev_H) (kc ks : Nat) (Q : Option Value → ev_H → Prop) : Prop := ∃ n r h, ev n sc I pc Lc stc hc kc ks = some (r, h) ∧ Q r h
/-- a state of the symbols' machine and one of ours -/
def x_G (ρ : Nat → Int) (env : xE) (L st : List xv) (h : xH) (Lc : ev_L) (stc : List Value) (hc : ev_H) : Prop := x_sat ρ env ∧ x_rL env.length ρ L Lc ∧ x_rS env.length ρ st stc ∧ x_rH env.length ρ h hc
/-- an end (0: an answer; p and 1: a halt at p) is good for Q -/
def x_O (sc : Option (List Int32)) (I : ev_I) (Q : Option Value → ev_H → Prop) (ρ : Nat → Int) (n : Nat) (o : xo) : Prop := ∀ (ρ' : Nat → Int) (Lc : ev_L) (stc : List Value) (hc : ev_H), x_ext n ρ ρ' → n ≤ o.2.2.2.2.1.length → x_G ρ' o.2.2.2.2.1 o.2.1 o.2.2.1 o.2.2.2.1 Lc stc hc → match o.1 with
  | 0 => Q stc.head? hc
  | p + 1 => x_W sc I p Lc stc hc o.2.2.2.2.2.1 o.2.2.2.2.2.2 Q
def x_S (scx : Option (List xv)) (I : ev_I) (pc : Nat) (K : xK) : Prop := ∀ L st h env kc ks outs, K L st h env kc ks = some outs → ∀ ρ sc Lc stc hc, x_rX env.length ρ scx sc → x_G ρ env L st h Lc stc hc → ∀ Q, (∀ o ∈ outs, x_O sc I Q ρ env.length o) → x_W sc I pc Lc stc hc kc ks Q
theorem x_O.up {sc : Option (List Int32)} {I : ev_I} {Q : Option Value → ev_H → Prop} {ρ ρ' : Nat → Int} {n n' : Nat} {o : xo} (h : x_O sc I Q ρ n o) (he : x_ext n ρ ρ') (hn : n ≤ n') : x_O sc I Q ρ' n' o := fun ρ'' Lc stc hc e1 e2 hG => h ρ'' Lc stc hc (he.tr hn e1) (Nat.le_trans hn e2) hG
/-- a method of ours: what it answers from its first row on -/
def x_Mt (I : ev_I) (m : xM) : Prop := ∀ as h env outs, m as h env = some outs → ∀ ρ hc, x_sat ρ env → (∀ v ∈ as, x_ok env.length v) → x_rH env.length ρ h hc → ∀ Q : Option Value → ev_H → Prop,
  (∀ o ∈ outs, ∀ ρ' hc', x_ext env.length ρ ρ' → env.length ≤ o.2.2.2.2.1.length → x_sat ρ' o.2.2.2.2.1 → (∀ v ∈ o.2.2.1, x_ok o.2.2.2.2.1.length v) → x_rH o.2.2.2.2.1.length ρ' o.2.2.2.1 hc' → Q ((o.2.2.1.map (x_in ρ')).head?) hc') → x_W none I 0 (lv_args 0 (as.map (x_in ρ))) [] hc 0 0 Q
def x_Ma (a : Nat) (m : xM) : Prop := ∀ r, ev_ms a = some r → x_Mt r.1 m
