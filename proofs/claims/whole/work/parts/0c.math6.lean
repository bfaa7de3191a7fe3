/-! PURE ROWS 6: the row's loops -/
def zr_ob (q : Nat → Nat) (n : Nat) : va_E := .inr (1, [.ref (q 1), .int (nI n), .ref (q 2), .ref (q 3), .ref (q 4)])
theorem zu_app {f : Nat → Int32} {b : Nat → Nat} {k : Nat} {v : Int32} (h : ∀ j, j < k → f (b j) = v) : ∀ j, j < k + 1 → upd f (b k) v (b j) = v := by
  intro j hj
  by_cases q : b j = b k
  · rw [q]; exact pk_us
  · rw [pk_un q]
    refine h j ?_
    rcases Nat.lt_or_ge j k with z | z
    · exact z
    · exact absurd (by rw [show j = k by omega]) q
theorem zn_pm (x : Int32) : x + Int32.ofInt (-1) = x - nI 1 := by
  show x + (-1) = x - 1
  rw [Int32.sub_eq_add_neg]
theorem zn_k0 {k : Nat} (h : ¬ nI k - nI 1 < 0) : 0 < k := by
  rcases Nat.eq_zero_or_pos k with z | z
  · subst z; exact absurd (by decide) h
  · exact z
theorem zn_k1 {k : Nat} (hk : k < 2 ^ 31) (h : nI k - nI 1 < 0) : k = 0 := by
  rcases Nat.eq_zero_or_pos k with z | z
  · exact z
  · exact absurd h (by rw [pk_sub z]; exact nI_pos (by omega))
/-- u is the first use of the block x from k on, 400 if there is none -/
def zx_FU (n : Nat) (bk : Nat → Nat) (k x u : Nat) : Prop :=
  (k ≤ u ∧ u < n ∧ bk u = x ∧ ∀ i, k ≤ i → i < u → bk i ≠ x) ∨ (u = 400 ∧ ∀ i, k ≤ i → i < n → bk i ≠ x)
theorem zx_FU_NX {n : Nat} {bk : Nat → Nat} {k u : Nat} (hk : 0 < k) (h : zx_FU n bk k (bk (k - 1)) u) : zx_NX n bk (k - 1) u := by
  rcases h with ⟨h1, h2, h3, h4⟩ | ⟨h1, h2⟩
  · exact Or.inl ⟨by omega, h2, h3, fun i a b => h4 i (by omega) b⟩
  · exact Or.inr ⟨h1, fun i a b => h2 i (by omega) b⟩
theorem zx_FU_s {n : Nat} {bk : Nat → Nat} {ff : Nat → Int32} {k : Nat} (hk : 0 < k) (hn : k ≤ n) (h : ∀ j, j < n → ∃ u, ff (bk j) = nI u ∧ zx_FU n bk k (bk j) u) :
    ∀ j, j < n → ∃ u, upd ff (bk (k - 1)) (nI (k - 1)) (bk j) = nI u ∧ zx_FU n bk (k - 1) (bk j) u := by
  intro j hj
  by_cases q : bk j = bk (k - 1)
  · rw [q]
    exact ⟨k - 1, pk_us, Or.inl ⟨Nat.le_refl _, by omega, rfl, fun i a b => by omega⟩⟩
  · rw [pk_un q]
    obtain ⟨u, h1, h2⟩ := h j hj
    refine ⟨u, h1, ?_⟩
    rcases h2 with ⟨a1, a2, a3, a4⟩ | ⟨a1, a2⟩
    · refine Or.inl ⟨by omega, a2, a3, fun i b1 b2 => ?_⟩
      rcases Nat.lt_or_ge i k with z | z
      · rw [show i = k - 1 by omega]; exact fun e => q e.symm
      · exact a4 i z b2
    · refine Or.inr ⟨a1, fun i b1 b2 => ?_⟩
      rcases Nat.lt_or_ge i k with z | z
      · rw [show i = k - 1 by omega]; exact fun e => q e.symm
      · exact a2 i z b2
theorem zx_nx_s {n : Nat} {bk : Nat → Nat} {fn : Nat → Int32} {k u : Nat} (hk : 0 < k) (h : ∀ i, k ≤ i → i < n → ∃ u, fn i = nI u ∧ zx_NX n bk i u) (hu : zx_FU n bk k (bk (k - 1)) u) :
    ∀ i, k - 1 ≤ i → i < n → ∃ w, upd fn (k - 1) (nI u) i = nI w ∧ zx_NX n bk i w := by
  intro i a b
  by_cases q : i = k - 1
  · rw [q]; exact ⟨u, pk_us, zx_FU_NX hk hu⟩
  · rw [pk_un q]; exact h i (by omega) b
theorem zx_ch {n : Nat} {bk : Nat → Nat} {fn : Nat → Int32} (h : ∀ i, i < n → ∃ u, fn i = nI u ∧ zx_NX n bk i u) : ∃ nx : Nat → Nat, ∀ i, i < n → fn i = nI (nx i) ∧ zx_NX n bk i (nx i) := by
  have h0 : ∀ i : Nat, ∃ u : Nat, i < n → fn i = nI u ∧ zx_NX n bk i u := by
    intro i
    by_cases q : i < n
    · obtain ⟨u, hu⟩ := h i q
      exact ⟨u, fun _ => hu⟩
    · exact ⟨0, fun z => absurd z q⟩
  exact Classical.axiomOfChoice h0
/-- a row of lines -/
def zl_at (f : Nat → Int32) (Ls : List Nat) : Prop := ∀ j, j < Ls.length → f j = nI (Ls.getD j 0) ∧ Ls.getD j 0 ≤ 400
theorem zl_g {Ls : List Nat} {j : Nat} (h : j < Ls.length) : Ls[j]? = some (Ls.getD j 0) := by
  rw [List.getElem?_eq_getElem h]; simp [h]
theorem zl_found {f : Nat → Int32} {Ls : List Nat} {i l : Nat} (hf : zl_at f Ls) (hi : i < 400) (hL : Ls.length ≤ 64) (hl : l < Ls.length) (hfp : zf_FP f Ls.length (nI i) (nI l)) : Ls[l]? = some i := by
  rcases hfp with ⟨k, h1, h2, h3, -⟩ | ⟨h1, -⟩
  · have hkl : l = k := (nI_eq (by omega) (by omega)).mp h2
    subst hkl
    rw [(hf l h1).1] at h3
    have := (nI_eq (by have := (hf l h1).2; omega) (by omega)).mp h3
    rw [zl_g h1, this]
  · exact absurd h1 (zn_m1 (by omega))
theorem zl_none {f : Nat → Int32} {Ls : List Nat} {i : Nat} (hf : zl_at f Ls) (hL : Ls.length ≤ 64) (hfp : zf_FP f Ls.length (nI i) (-1)) : i ∉ Ls := by
  intro hm
  obtain ⟨j, hj, e⟩ := List.getElem_of_mem hm
  have e2 : Ls.getD j 0 = i := by simp [hj, e]
  rcases hfp with ⟨k, h1, h2, -⟩ | ⟨-, h2⟩
  · exact absurd h2.symm (zn_m1 (by omega))
  · exact h2 j hj (by rw [(hf j hj).1, e2])
theorem zl_max {f : Nat → Int32} {Ls : List Nat} {l : Nat} (hf : zl_at f Ls) (hax : zf_AX f Ls.length l) : ∃ v, Ls[l]? = some v ∧ ∀ w ∈ Ls, w ≤ v := by
  obtain ⟨h1, h2, -⟩ := hax
  refine ⟨Ls.getD l 0, zl_g h1, fun w hw => ?_⟩
  obtain ⟨j, hj, e⟩ := List.getElem_of_mem hw
  have e2 : Ls.getD j 0 = w := by simp [hj, e]
  have h3 := h2 j hj
  rw [(hf l h1).1, (hf j hj).1, e2] at h3
  have a1 := (hf l h1).2
  have a2 := (hf j hj).2
  rw [e2] at a2
  rcases Nat.lt_or_ge (Ls.getD l 0) w with z | z
  · exact absurd ((nI_ltI (by omega) (by omega)).mpr z) h3
  · exact z
theorem zl_er {Ls : List Nat} {l j : Nat} (hj : j < (Ls.eraseIdx l).length) : (Ls.eraseIdx l).getD j 0 = if j < l then Ls.getD j 0 else Ls.getD (j + 1) 0 := by
  have h1 : (Ls.eraseIdx l)[j]? = if j < l then Ls[j]? else Ls[j + 1]? := by
    rw [List.getElem?_eraseIdx]
  rw [List.getD_eq_getElem?_getD, h1]
  split
  · rw [List.getD_eq_getElem?_getD]
  · rw [List.getD_eq_getElem?_getD]
theorem zl_front {f f2 : Nat → Int32} {Ls : List Nat} {l u : Nat} (hf : zl_at f Ls) (hu : u ≤ 400) (hl : l ≤ Ls.length) (b0 : f2 0 = nI u) (b1 : ∀ j, j < l → f2 (j + 1) = f j) (b2 : ∀ j, l < j → f2 j = f j) : zl_at f2 (u :: Ls.eraseIdx l) := by
  intro j hj
  cases j with
  | zero => exact ⟨b0, hu⟩
  | succ j =>
    rw [List.length_cons] at hj
    have hj1 : j < (Ls.eraseIdx l).length := by omega
    have e : (u :: Ls.eraseIdx l).getD (j + 1) 0 = (Ls.eraseIdx l).getD j 0 := rfl
    rw [e, zl_er hj1]
    have hle := List.length_eraseIdx_le Ls l
    by_cases q : j < l
    · rw [if_pos q, b1 j q]
      exact hf j (by omega)
    · rw [if_neg q, b2 (j + 1) (by omega)]
      refine hf (j + 1) ?_
      rcases Nat.lt_or_ge l Ls.length with z | z
      · rw [List.length_eraseIdx_of_lt z] at hj1; omega
      · omega
theorem zl_len {Ls : List Nat} {l : Nat} (hl : l < Ls.length) : Ls.length = (Ls.eraseIdx l).length + 1 := by
  rw [List.length_eraseIdx_of_lt hl]; omega
