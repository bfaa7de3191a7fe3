/-! PURE ROWS 11: a step of the reference's best -/
theorem zE_all {E : List Nat} {t k : Nat} (hk : k = E.length) : zE_f E t k = E.filter (fun x => decide (x ≠ t)) := by
  unfold zE_f; rw [hk, List.take_length]
theorem zb_R_s1 {li : Nat} {nx : Nat → Nat} {t c c2 k : Nat} {E E1 : List Nat} (hR : zb_R li nx t E c) (hin : E1 = zb_in nx t E) (hk : k = E1.length) (hc : c2 = c + (E1.take k).count t) (hl : (zE_f E1 t k).length < li) : zb_R li nx (t + 1) (zE_f E1 t k) c2 := by
  have e := zE_all (t := t) hk
  rw [hk, List.take_length] at hc
  rw [e] at hl ⊢
  subst hin
  exact ⟨E, c, hR, hc, Or.inl ⟨hl, rfl⟩⟩
theorem zb_R_s2 {li : Nat} {nx : Nat → Nat} {t c c2 k m : Nat} {E E1 : List Nat} {g : Nat → Int32} (hR : zb_R li nx t E c) (hin : E1 = zb_in nx t E) (hk : k = E1.length) (hc : c2 = c + (E1.take k).count t) (hl : ¬ (zE_f E1 t k).length < li) (hF : zl_at g (zE_f E1 t k)) (hax : zf_AX g (zE_f E1 t k).length m) :
    zb_R li nx (t + 1) (((zE_f E1 t k).set m ((zE_f E1 t k).getD ((zE_f E1 t k).length - 1) 0)).dropLast) c2 := by
  obtain ⟨v, hv, hmax⟩ := zl_max hF hax
  have hp := (zE_drop hF hax.1).2.1
  have hm := hax.1
  have e := zE_all (t := t) hk
  rw [hk, List.take_length] at hc
  generalize zE_f E1 t k = F at hp hm hv hmax hl e
  subst e
  subst hin
  exact ⟨E, c, hR, hc, Or.inr ⟨hl, v, ⟨m, hm, hv, hp⟩, hmax⟩⟩
theorem zb_in_0 {nx : Nat → Nat} {E : List Nat} {t : Nat} (h : t = 0 ∨ nx (t - 1) = 400) : E = zb_in nx t E := by
  unfold zb_in
  rw [if_neg]
  rintro ⟨h1, h2⟩
  rcases h with h | h
  · omega
  · exact h2 h
theorem zb_in_1 {nx : Nat → Nat} {E : List Nat} {t u : Nat} (h0 : 0 < t) (h : nx (t - 1) = u) (hu : u ≠ 400) : E ++ [u] = zb_in nx t E := by
  unfold zb_in
  rw [if_pos ⟨h0, by rw [h]; exact hu⟩, h]
theorem zx_re {n : Nat} {bk : Nat → Nat} {k : Nat} {r : Int32} (h : (∃ u, u < n ∧ r = nI u ∧ zx_NX n bk k u) ∨ (r = -1 ∧ zx_NX n bk k 400)) (hr : ¬ r < 0) : ∃ u, u < n ∧ r = nI u ∧ zx_NX n bk k u := by
  rcases h with h | ⟨h, -⟩
  · exact h
  · rw [h] at hr; exact absurd (by decide) hr
theorem zx_rn {n : Nat} {bk : Nat → Nat} {k : Nat} {r : Int32} (hn : n < 2 ^ 31) (h : (∃ u, u < n ∧ r = nI u ∧ zx_NX n bk k u) ∨ (r = -1 ∧ zx_NX n bk k 400)) (hr : r < 0) : zx_NX n bk k 400 := by
  rcases h with ⟨u, h1, h2, -⟩ | ⟨-, h⟩
  · rw [h2] at hr; exact absurd hr (nI_pos (by omega))
  · exact h
