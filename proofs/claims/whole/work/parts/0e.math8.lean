/-! PURE ROWS 8: signs of places -/
theorem zf_FP_neg {g : Nat → Int32} {n : Nat} {b r : Int32} (hn : n < 2 ^ 31) (h : zf_FP g n b r) (hr : r < 0) : r = -1 := by
  rcases h with ⟨k, h1, h2, -⟩ | ⟨h1, -⟩
  · rw [h2] at hr; exact absurd hr (nI_pos (by omega))
  · exact h1
theorem zf_FP_pos {g : Nat → Int32} {n : Nat} {b r : Int32} (h : zf_FP g n b r) (hr : ¬ r < 0) : ∃ k, k < n ∧ r = nI k := by
  rcases h with ⟨k, h1, h2, -⟩ | ⟨h1, -⟩
  · exact ⟨k, h1, h2⟩
  · rw [h1] at hr; exact absurd (by decide) hr
theorem zm_cp_t {gb gd : Nat → Int32} {o dz j : Nat} (h1 : ¬ gb (o + j) < 0) (h2 : dz = 0 ∨ ¬ gd (o + j) = 0) : zm_cp gb gd o dz j = true := by
  simp only [zm_cp, decide_eq_true_eq]; exact ⟨h1, h2⟩
theorem zm_cp_f {gb gd : Nat → Int32} {o dz j : Nat} (h : gb (o + j) < 0 ∨ (0 < dz ∧ gd (o + j) = 0)) : zm_cp gb gd o dz j = false := by
  simp only [zm_cp, decide_eq_false_iff_not]
  rintro ⟨h1, h2⟩
  rcases h with h | ⟨h3, h4⟩
  · exact h1 h
  · rcases h2 with h2 | h2
    · omega
    · exact h2 h4
