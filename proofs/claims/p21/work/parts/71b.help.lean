/-! helpers -/
theorem f_rAl {z : Int64} : y_rA (1, Int.negSucc 9223372036854775807, Int.ofNat 9223372036854775807, false) (.long z) := ⟨z, rfl, Or.inl ⟨z.le_toInt, by have := z.toInt_lt; show _ ≤ (9223372036854775807 : Int); omega⟩⟩
theorem f_reti {e : Int × Int × Bool} {r : Option Value} (h : y_ret (some (0, e)) r) : ∃ w : Int32, r = some (.int w) := by
  obtain ⟨-, v, rfl, z, rfl, -⟩ := h
  exact ⟨z, rfl⟩
theorem f_retl {e : Int × Int × Bool} {r : Option Value} (h : y_ret (some (1, e)) r) : ∃ w : Int64, r = some (.long w) := by
  obtain ⟨-, v, rfl, z, rfl, -⟩ := h
  exact ⟨z, rfl⟩
theorem g_55 {hc : ev_H} (h : y_in yG hc) : ∃ fs, hc[55]? = some (.inr (.inr (10, fs))) := by
  obtain ⟨cc, hq, fs, rfl, -⟩ := h 55 _ rfl
  exact ⟨fs, hq⟩
theorem g_0 {hc : ev_H} (h : y_in yG hc) : ∃ fs, hc[0]? = some (.inr (.inr (9, fs))) := by
  obtain ⟨cc, hq, fs, rfl, -⟩ := h 0 _ rfl
  exact ⟨fs, hq⟩
