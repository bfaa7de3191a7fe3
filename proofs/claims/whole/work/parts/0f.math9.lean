/-! PURE ROWS 9: the reference's curve and best -/
theorem zx_ex (n : Nat) (bk : Nat → Nat) (i : Nat) : ∃ j, zx_NX n bk i j := by
  by_cases h : ∃ k, i < k ∧ k < n ∧ bk k = bk i
  · obtain ⟨k, ⟨h1, h2, h3⟩, h4⟩ := pk_least (fun k => i < k ∧ k < n ∧ bk k = bk i) h
    exact ⟨k, Or.inl ⟨h1, h2, h3, fun j a b e => h4 j b ⟨a, by omega, e⟩⟩⟩
  · exact ⟨400, Or.inr ⟨rfl, fun k a b e => h ⟨k, a, b, e⟩⟩⟩
theorem zx_NX_u {n : Nat} {bk : Nat → Nat} {i j j' : Nat} (h : zx_NX n bk i j) (h' : zx_NX n bk i j') : j = j' := by
  rcases h with ⟨h1, h2, h3, h4⟩ | ⟨h1, h2⟩ <;> rcases h' with ⟨k1, k2, k3, k4⟩ | ⟨k1, k2⟩
  · rcases Nat.lt_trichotomy j j' with z | z | z
    · exact absurd h3 (k4 j h1 z)
    · exact z
    · exact absurd k3 (h4 j' k1 z)
  · exact absurd h3 (k2 j h1 h2)
  · exact absurd k3 (h2 j' k1 k2)
  · omega
theorem zx_all (n : Nat) (bk : Nat → Nat) : ∃ nx : Nat → Nat, ∀ i, zx_NX n bk i (nx i) := Classical.axiomOfChoice (zx_ex n bk)
theorem zb_R_c {li : Nat} {nx nx' : Nat → Nat} : ∀ (t : Nat) (E : List Nat) (c : Nat), (∀ i, i < t → nx i = nx' i) → zb_R li nx t E c → zb_R li nx' t E c
  | 0, E, c, _, h => h
  | t + 1, E, c, hx, ⟨E0, c0, h1, h2⟩ => by
    have e : zb_in nx t E0 = zb_in nx' t E0 := by
      unfold zb_in
      by_cases q : 0 < t
      · rw [hx (t - 1) (by omega)]
      · rw [if_neg (fun z => q z.1), if_neg (fun z => q z.1)]
    refine ⟨E0, c0, zb_R_c t E0 c0 (fun i hi => hx i (by omega)) h1, ?_⟩
    rw [← e]; exact h2
/-- a first place, or any -/
def zf_FA (g : Nat → Int32) (k : Nat) (b f : Int32) : Prop := (∃ m, m < k ∧ f = nI m ∧ g m = b) ∨ (f = -1 ∧ ∀ j, j < k → g j ≠ b)
theorem zf_FA_0 {g : Nat → Int32} {b : Int32} : zf_FA g 0 b (-1) := Or.inr ⟨rfl, fun j h => by omega⟩
theorem zf_FA_t {g : Nat → Int32} {k : Nat} {b : Int32} (h : g k = b) : zf_FA g (k + 1) b (nI k) := Or.inl ⟨k, by omega, rfl, h⟩
theorem zf_FA_f {g : Nat → Int32} {k : Nat} {b f : Int32} (h : ¬ g k = b) (hf : zf_FA g k b f) : zf_FA g (k + 1) b f := by
  rcases hf with ⟨m, h1, h2, h3⟩ | ⟨h1, h2⟩
  · exact Or.inl ⟨m, by omega, h2, h3⟩
  · refine Or.inr ⟨h1, fun j hj => ?_⟩
    rcases Nat.lt_or_ge j k with z | z
    · exact h2 j z
    · rw [show j = k by omega]; exact h
theorem zf_FA_pos {g : Nat → Int32} {k : Nat} {b f : Int32} (h : zf_FA g k b f) (hf : ¬ f < 0) : ∃ m, m < k ∧ f = nI m ∧ g m = b := by
  rcases h with h | ⟨h1, -⟩
  · exact h
  · rw [h1] at hf; exact absurd (by decide) hf
theorem zf_FA_neg {g : Nat → Int32} {k : Nat} {b f : Int32} (hk : k < 2 ^ 31) (h : zf_FA g k b f) (hf : f < 0) : ∀ j, j < k → g j ≠ b := by
  rcases h with ⟨m, h1, h2, -⟩ | ⟨-, h2⟩
  · rw [h2] at hf; exact absurd hf (nI_pos (by omega))
  · exact h2
def zf_AM0 (g : Nat → Int32) (k o : Nat) : Prop := (k = 0 ∧ o = 0) ∨ zf_AM g k o
theorem zf_AM0_t {g : Nat → Int32} {k o : Nat} (h : zf_AM0 g k o) (hl : g k < g o) : zf_AM0 g (k + 1) k := by
  rcases h with ⟨rfl, rfl⟩ | h
  · rw [zf_ilt] at hl; omega
  · exact Or.inr (zf_AM_t h hl)
theorem zf_AM0_f {g : Nat → Int32} {k o : Nat} (h : zf_AM0 g k o) (hl : ¬ g k < g o) : zf_AM0 g (k + 1) o := by
  rcases h with ⟨rfl, rfl⟩ | h
  · exact Or.inr zf_AM_1
  · exact Or.inr (zf_AM_f h hl)
theorem zf_AM0_le {g : Nat → Int32} {k o : Nat} (h : zf_AM0 g k o) : o ≤ k := by
  rcases h with ⟨rfl, rfl⟩ | h
  · omega
  · have := h.1; omega
/-- the reference's lines as a list -/
def zM_at (f g : Nat → Int32) (M : List (Nat × Nat)) : Prop := ∀ j (h : j < M.length), f j = nI (M[j].1) ∧ g j = nI (M[j].2) ∧ M[j].1 < 4096 ∧ M[j].2 < 400
theorem zM_in {f g : Nat → Int32} {M : List (Nat × Nat)} {b : Nat} (hM : zM_at f g M) (hb : b < 4096) (h : ∀ j, j < M.length → f j ≠ nI b) : ∀ m ∈ M, m.1 ≠ b := by
  intro m hm e
  obtain ⟨j, hj, e2⟩ := List.getElem_of_mem hm
  exact h j hj (by rw [(hM j hj).1, e2, e])
theorem zM_hit {f g : Nat → Int32} {M : List (Nat × Nat)} {b l : Nat} (hM : zM_at f g M) (hb : b < 4096) (hl : l < M.length) (h : f l = nI b) : ∃ a, M[l]? = some (b, a) := by
  have h1 := hM l hl
  rw [h1.1] at h
  have h2 := (nI_eq (by omega) (by omega)).mp h
  exact ⟨M[l].2, by rw [List.getElem?_eq_getElem hl, ← h2]⟩
theorem zM_min {f g : Nat → Int32} {M : List (Nat × Nat)} {l : Nat} (hM : zM_at f g M) (h : zf_AM g M.length l) : ∃ v, M[l]? = some v ∧ ∀ w ∈ M, v.2 ≤ w.2 := by
  obtain ⟨h1, h2, -⟩ := h
  refine ⟨M[l], List.getElem?_eq_getElem h1, fun w hw => ?_⟩
  obtain ⟨j, hj, e⟩ := List.getElem_of_mem hw
  have h3 := h2 j hj
  have a1 := hM l h1
  have a2 := hM j hj
  rw [a1.2.1, a2.2.1] at h3
  rw [← e]
  rcases Nat.lt_or_ge (M[j].2) (M[l].2) with z | z
  · exact absurd ((nI_ltI (by omega) (by omega)).mpr z) h3
  · exact z
theorem zM_up {f g : Nat → Int32} {M : List (Nat × Nat)} {b i l : Nat} (hM : zM_at f g M) (hb : b < 4096) (hi : i < 400) (hl : l ≤ M.length) : zM_at (upd f l (nI b)) (upd g l (nI i)) (zm_up M l (b, i)) := by
  intro j hj
  unfold zm_up at hj ⊢
  by_cases q : l < M.length
  · simp only [if_pos q] at hj ⊢
    rw [List.length_set] at hj
    by_cases z : j = l
    · subst z
      rw [pk_us, pk_us]; simp; omega
    · rw [pk_un z, pk_un z]
      have e : (M.set l (b, i))[j]'(by rw [List.length_set]; exact hj) = M[j] := by rw [List.getElem_set_ne (by omega)]
      rw [e]; exact hM j hj
  · have hl2 : l = M.length := by omega
    simp only [if_neg q] at hj ⊢
    rw [List.length_append, List.length_singleton] at hj
    by_cases z : j = l
    · subst z
      rw [pk_us, pk_us]
      have e : (M ++ [(b, i)])[j]'(by simp; omega) = (b, i) := by
        rw [List.getElem_append_right (by omega)]; simp
      rw [e]; exact ⟨rfl, rfl, hb, hi⟩
    · rw [pk_un z, pk_un z]
      have e : (M ++ [(b, i)])[j]'(by simp; omega) = M[j]'(by omega) := List.getElem_append_left (by omega)
      rw [e]; exact hM j (by omega)
theorem zM_len {M : List (Nat × Nat)} {l : Nat} {x : Nat × Nat} : (zm_up M l x).length = if l < M.length then M.length else M.length + 1 := by
  unfold zm_up
  split
  · rw [List.length_set]
  · rw [List.length_append, List.length_singleton]
theorem zM_mem {M : List (Nat × Nat)} {l b a : Nat} (h : M[l]? = some (b, a)) : ∃ m ∈ M, m.1 = b := ⟨_, List.mem_of_getElem? h, rfl⟩
