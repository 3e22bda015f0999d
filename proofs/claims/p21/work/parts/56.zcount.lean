/-! loops that are counted: a local grows by one a turn, the others stay in their ranges -/
theorem z_la {tail : List xv} : ∀ {as : List xv}, (as.all (fun v => !(Nat.beq v.1 1))) = true → x_la as tail = as ++ tail := by
  intro as
  induction as with
  | nil => intro _; rfl
  | cons v r ih =>
    intro h
    rw [List.all_cons, Bool.and_eq_true] at h
    have e : x_la (v :: r) tail = (match Nat.beq v.1 1 with
      | true => v :: (9, 0, 0) :: x_la r tail
      | false => v :: x_la r tail) := rfl
    have hb : Nat.beq v.1 1 = false := by
      have := h.1
      cases hq : Nat.beq v.1 1 with
      | true => rw [hq] at this; cases this
      | false => rfl
    rw [e, hb, ih h.2]
    rfl
theorem z_cks_k {env : xE} : ∀ {fs : List yF} {vs : List xv}, y_cks env fs vs = true → ∀ (j : Nat) (f : yF) (v : xv), fs[j]? = some f → vs[j]? = some v → f.1 = v.1 := by
  intro fs
  induction fs with
  | nil => intro vs h j f v hj; cases hj
  | cons f0 fs ih =>
    intro vs h j f v hj hv
    cases vs with
    | nil => cases h
    | cons v0 r =>
      have h : (match y_ck env f0 v0 with
        | true => y_cks env fs r
        | false => false) = true := h
      cases hc : y_ck env f0 v0 with
      | false => rw [hc] at h; cases h
      | true =>
        rw [hc] at h
        cases j with
        | zero =>
          cases hj
          cases hv
          unfold y_ck at hc
          split at hc
          · cases hc
          · rename_i hb
            exact Nat.eq_of_beq_eq_true hb
        | succ j => exact ih h j f v hj hv
noncomputable def z_start (hd k : Nat) (fs : List yF) (md : yMd) : yo := (hd + 1, x_la (y_ini fs []).1 (List.replicate k (9, 0, 0)), [], (md, [], []), (y_ini fs []).2, 0, 0)
noncomputable def z_bk (hd : Nat) (fs : List yF) (md : yMd) (o : yo) : Bool := Nat.beq o.1 (hd + 1) && (y_mq o.2.2.2.1.1 md && (Nat.beq o.2.2.2.2.2.1 0 && (Nat.beq o.2.2.2.2.2.2 0 && (Nat.beq o.2.2.1.length 0 && y_cks o.2.2.2.2.1 fs (o.2.1.take fs.length)))))
theorem z_bk_ok {h0 : yQ × ev_H} {hd : Nat} (k : Nat) {fs : List yF} {md : yMd} {o : yo} (h : z_bk hd fs md o = true) (hk : ∀ f ∈ fs, f.1 ≤ 2) (h1 : ((y_ini fs []).1.all (fun v => !(Nat.beq v.1 1))) = true) {ρ : Nat → Int} {Lc : ev_L} {stc : List Value} {hc : ev_H} (hG : y_G h0 ρ o.2.2.2.2.1 o.2.1 o.2.2.1 o.2.2.2.1 Lc stc hc) :
    (o.1 = hd + 1 ∧ o.2.2.2.2.2.1 = 0 ∧ o.2.2.2.2.2.2 = 0) ∧ ∃ ρ', (∀ (j : Nat) (v w : xv), (y_ini fs []).1[j]? = some v → o.2.1[j]? = some w → x_in ρ' v = x_in ρ w) ∧ y_G h0 ρ' (z_start hd k fs md).2.2.2.2.1 (z_start hd k fs md).2.1 (z_start hd k fs md).2.2.1 (z_start hd k fs md).2.2.2.1 Lc stc hc := by
  unfold z_bk at h
  simp only [Bool.and_eq_true] at h
  obtain ⟨b1, b2, b3, b4, b5, b6⟩ := h
  have b1 := Nat.eq_of_beq_eq_true b1
  have b2 := y_mq_ok b2
  have b3 := Nat.eq_of_beq_eq_true b3
  have b4 := Nat.eq_of_beq_eq_true b4
  have b5 := List.length_eq_zero_iff.mp (Nat.eq_of_beq_eq_true b5)
  obtain ⟨hsat, hL, hst, hin, hun, hca, hvn⟩ := hG
  have ha := y_cks_ok (ρ := ρ) hsat b6
  have h00 : x_sat (fun _ => 0) ([] : xE) := fun i e hi => by cases hi
  obtain ⟨ρ', g1, g2, g3, g4, g5⟩ := y_ini_ok (fs := fs) h00 ha hk
  have hl1 : fs.length = (o.2.1.take fs.length).length := by
    have := ha.1
    rw [List.length_map] at this
    exact this
  have hl2 : (y_ini fs []).1.length = fs.length := by
    have := congrArg List.length g5
    rw [List.length_map, List.length_map] at this
    omega
  have hv : ∀ (j : Nat) (v w : xv), (y_ini fs []).1[j]? = some v → o.2.1[j]? = some w → x_in ρ' v = x_in ρ w := fun j v w hj hw => by
    have hjl : j < fs.length := by rw [← hl2]; exact (List.getElem?_eq_some_iff.mp hj).1
    have e := congrArg (fun l => l[j]?) g5
    rw [List.getElem?_map, List.getElem?_map, hj, List.getElem?_take_of_lt hjl, hw] at e
    exact (Option.some.inj e).symm
  refine ⟨⟨b1, b3, b4⟩, ρ', hv, g3, fun j v hj h4 => ?_, ⟨by rw [hst.1, b5]; rfl, fun v hv => by cases hv⟩, hin, by rw [b2] at hun; exact hun, fun e he => (by cases he), fun e he => by cases he⟩
  have hj : (x_la (y_ini fs []).1 (List.replicate k (9, 0, 0)))[j]? = some v := hj
  rw [z_la h1, List.getElem?_append] at hj
  split at hj
  · rename_i hjl
    refine ⟨g4 v (List.mem_of_getElem? hj), ?_⟩
    have hjf : j < fs.length := by omega
    have hjo : j < o.2.1.length := by
      rw [List.length_take] at hl1
      omega
    have hw : o.2.1[j]? = some o.2.1[j] := List.getElem?_eq_getElem hjo
    have hkd := z_cks_k b6 j fs[j] o.2.1[j] (List.getElem?_eq_getElem hjf) (by rw [List.getElem?_take_of_lt hjf]; exact hw)
    have hle := hk fs[j] (List.getElem_mem hjf)
    rw [hv j v _ hj hw]
    exact (hL j _ hw (by omega)).2
  · rw [List.eq_of_mem_replicate (List.mem_of_getElem? hj)] at h4
    exact absurd h4 (by decide)
theorem z_count {h0 : yQ × ev_H} {I : ev_I} {Q : Option Value → ev_H → Prop} {hd k : Nat} {fs : List yF} {md : yMd} {N c cs : Nat} (hk : ∀ f ∈ fs, f.1 ≤ 2) (h1 : ((y_ini fs []).1.all (fun v => !(Nat.beq v.1 1))) = true) (hN : N ≤ 2000000000) (hc1 : (y_ini fs []).1[c]? = some (0, cs + 1, 0)) (hc2 : (y_ini fs []).2[cs]? = some (0, (N : Int), false)) {post : yo → Bool}
    (hrun : ∀ σ, (∀ o, post o = true → z_P h0 I Q (y_ini fs []).2.length σ o) → z_P h0 I Q (y_ini fs []).2.length σ (z_start hd k fs md))
    (hpost : ∀ o, post o = true → (∀ σ, z_P h0 I Q (y_ini fs []).2.length σ o) ∨ (z_bk hd fs md o = true ∧ o.2.1[c]? = some (0, cs + 1, 1))) :
    ∀ σ, z_P h0 I Q (y_ini fs []).2.length σ (z_start hd k fs md) := by
  have hcl : cs < (y_ini fs []).2.length := (List.getElem?_eq_some_iff.mp hc2).1
  have rng : ∀ ρ : Nat → Int, x_sat ρ (y_ini fs []).2 → 0 ≤ ρ cs ∧ ρ cs ≤ (N : Int) := fun ρ h => by
    rcases h cs _ hc2 with h | h
    · exact h
    · cases h.1
  have main : ∀ (n : Nat) (σ : Nat → Int), 0 ≤ σ cs → σ cs ≤ (N : Int) → ((N : Int) - σ cs).toNat ≤ n → z_P h0 I Q (y_ini fs []).2.length σ (z_start hd k fs md) := by
    intro n
    induction n with
    | zero =>
      intro σ s1 s2 s3
      refine hrun σ (fun o ho => ?_)
      rcases hpost o ho with h | ⟨hb, hcnt⟩
      · exact h σ
      · intro ρ Lc stc hc hl hx hG
        obtain ⟨-, ρ', hv, hG'⟩ := z_bk_ok k hb hk h1 hG
        have e := hv c _ _ hc1 hcnt
        have e : Int32.ofInt (ρ' cs + 0) = Int32.ofInt (ρ cs + 1) := Value.int.inj e
        have r1 := rng ρ' hG'.1
        have r2 := hx cs hcl
        have e := congrArg Int32.toInt e
        rw [x_i32 (by omega) (by omega), x_i32 (by omega) (by omega)] at e
        omega
    | succ n ih =>
      intro σ s1 s2 s3
      refine hrun σ (fun o ho => ?_)
      rcases hpost o ho with h | ⟨hb, hcnt⟩
      · exact h σ
      · intro ρ Lc stc hc hl hx hG
        obtain ⟨⟨e1, e2, e3⟩, ρ', hv, hG'⟩ := z_bk_ok k hb hk h1 hG
        have e := hv c _ _ hc1 hcnt
        have e : Int32.ofInt (ρ' cs + 0) = Int32.ofInt (ρ cs + 1) := Value.int.inj e
        have r1 := rng ρ' hG'.1
        have r2 := hx cs hcl
        have e := congrArg Int32.toInt e
        rw [x_i32 (by omega) (by omega), x_i32 (by omega) (by omega)] at e
        rw [e1, e2, e3]
        exact ih ρ' r1.1 r1.2 (by omega) ρ' Lc stc hc (Nat.le_refl _) x_ext.rf hG'
  intro σ ρ Lc stc hc hl hx hG
  have r1 := rng ρ hG.1
  have r2 := hx cs hcl
  exact main ((N : Int) - σ cs).toNat σ (by omega) (by omega) (Nat.le_refl _) ρ Lc stc hc hl hx hG
noncomputable def z_cnt (c cs : Nat) (L : List xv) : Bool := match x_n L c with
  | some v => Nat.beq v.1 0 && (Nat.beq v.2.1 (cs + 1) && x_eq v.2.2 1)
  | none => false
theorem z_cnt_ok {c cs : Nat} {L : List xv} (h : z_cnt c cs L = true) : L[c]? = some (0, cs + 1, 1) := by
  unfold z_cnt at h
  rw [x_n_eq] at h
  split at h
  · rename_i v hv
    simp only [Bool.and_eq_true] at h
    obtain ⟨h1, h2, h3⟩ := h
    rw [hv, show v = (0, cs + 1, 1) from Prod.ext (Nat.eq_of_beq_eq_true h1) (Prod.ext (Nat.eq_of_beq_eq_true h2) (x_eq_iff.mp h3))]
  · cases h
noncomputable def z_pA (hd : Nat) (fs : List yF) (ct : yCt) (o : yo) : Bool := match o.1 with
  | 0 => y_po ct o
  | _ + 1 => z_bk hd fs ct.2.2 o
noncomputable def z_pB (hd : Nat) (fs : List yF) (ct : yCt) (c cs : Nat) (o : yo) : Bool := match o.1 with
  | 0 => y_po ct o
  | _ + 1 => z_bk hd fs ct.2.2 o && z_cnt c cs o.2.1
def z_Qc (g : yQ) (ct : yCt) (hc0 : ev_H) : Option Value → ev_H → Prop := fun r hc' => y_ret ct.2.1 r ∧ y_in g hc' ∧ y_un ct.2.2 hc0 hc'
/-- a method with one counted loop at hd: to its head, then a turn -/
theorem z_loop {g : yQ} {I : ev_I} {ct : yCt} {pad hd k N c cs pr : Nat} {fs : List yF} (hpr : (y_ini fs []).2.length = pr) (hkA : ∀ f ∈ ct.1, f.1 ≤ 2) (hk : ∀ f ∈ fs, f.1 ≤ 2) (h1 : ((y_ini fs []).1.all (fun v => !(Nat.beq v.1 1))) = true) (hN : N ≤ 2000000000) (hc1 : (y_ini fs []).1[c]? = some (0, cs + 1, 0)) (hc2 : (y_ini fs []).2[cs]? = some (0, (N : Int), false))
    (hA : ∀ hc0, y_in g hc0 → ∀ σ, (∀ o, z_pA hd fs ct o = true → z_P (g, hc0) I (z_Qc g ct hc0) 0 σ o) → z_P (g, hc0) I (z_Qc g ct hc0) 0 σ (y_start pad ct))
    (hB : ∀ hc0, y_in g hc0 → ∀ σ, (∀ o, z_pB hd fs ct c cs o = true → z_P (g, hc0) I (z_Qc g ct hc0) pr σ o) → z_P (g, hc0) I (z_Qc g ct hc0) pr σ (z_start hd k fs ct.2.2)) : y_Mc g I ct := by
  subst hpr
  refine y_con (k := pad) hkA (fun hc0 hin => ?_)
  have zero : ∀ (pr : Nat) (σ : Nat → Int) (o : yo), o.1 = 0 → y_po ct o = true → z_P (g, hc0) I (z_Qc g ct hc0) pr σ o := fun pr σ o h1 h2 ρ Lc stc hc _ _ hG => y_po_ok h1 h2 ρ Lc stc hc hG
  have loop : ∀ σ, z_P (g, hc0) I (z_Qc g ct hc0) (y_ini fs []).2.length σ (z_start hd k fs ct.2.2) := z_count hk h1 hN hc1 hc2 (hB hc0 hin) (fun o ho => by
    unfold z_pB at ho
    split at ho
    · rename_i h9
      exact Or.inl (fun σ => zero _ σ o h9 ho)
    · rw [Bool.and_eq_true] at ho
      exact Or.inr ⟨ho.1, z_cnt_ok ho.2⟩)
  have hs := hA hc0 hin (fun _ => 0) (fun o ho => by
    unfold z_pA at ho
    split at ho
    · rename_i h9
      exact zero _ _ o h9 ho
    · intro ρ Lc stc hc hl hx hG
      obtain ⟨⟨e1, e2, e3⟩, ρ', -, hG'⟩ := z_bk_ok k ho hk h1 hG
      rw [e1, e2, e3]
      exact loop ρ' ρ' Lc stc hc (Nat.le_refl _) x_ext.rf hG')
  exact fun ρ Lc stc hc hG => hs ρ Lc stc hc (Nat.zero_le _) (fun i hi => absurd hi (Nat.not_lt_zero _)) hG
theorem z_spl_ok {g : yQ} {hc0 : ev_H} {I : ev_I} {Q : Option Value → ev_H → Prop} {pr : Nat} {σ : Nat → Int} {q i : Nat} {o : yo} {lo : Int} {m : Nat} {c : yC} {f : yF} (hc : x_g g q = some c) (h2 : c.1 = 2) (hf : x_g c.2.2.2 i = some f) (hf0 : f = (0, lo, lo + (m : Int), false)) (h : ∀ x ∈ y_spl q i 0 o lo m, z_P (g, hc0) I Q pr σ x) : z_P (g, hc0) I Q pr σ o := by
  intro ρ Lc stc hc9 hl hx hG
  obtain ⟨hsat, hL, hst, hin, hun, hca, hvn⟩ := hG
  obtain ⟨cc, g1, g2⟩ := hin q c hc
  obtain ⟨c1, c2, c3, c4⟩ := c
  have h2 : c1 = 2 := h2
  subst h2
  obtain ⟨fs, e1, e2⟩ := g2
  subst e1
  obtain ⟨v, v1, v2⟩ := e2 i f hf
  subst hf0
  obtain ⟨z, z1, z2⟩ := v2
  subst z1
  rcases z2 with ⟨z2, z3⟩ | ⟨z2, -⟩
  · have z2 : lo ≤ z.toInt := z2
    have z3 : z.toInt ≤ lo + (m : Int) := z3
    have := h _ (y_spl_in (z.toInt - lo).toNat (by omega)) ρ Lc stc hc9 hl hx ⟨hsat, hL, hst, hin, hun, fun e he => by
      rcases List.mem_cons.mp he with rfl | he
      · refine ⟨by show 0 < 2; decide, Nat.zero_le _, ?_⟩
        show y_get hc9 q i = some (.int (Int32.ofInt (lo + (((z.toInt - lo).toNat : Nat) : Int))))
        rw [y_get_o g1, v1, show lo + (((z.toInt - lo).toNat : Nat) : Int) = z.toInt by omega, Int32.ofInt_toInt]
      · exact hca e he, hvn⟩
    exact this
  · cases z2
