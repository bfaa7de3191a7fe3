/-! PURE ROWS 10: steps of the reference's curve and best -/
theorem zm_R_s {li : Nat} {bk : Nat → Nat} {i c h l0 lc lc2 : Nat} {M : List (Nat × Nat)} {f g : Nat → Int32} (hR : zm_R li bk i M c) (hM : zM_at f g M) (hlc : lc = M.length) (hb : bk i < 4096)
    (g1 : (h = 1 ∧ l0 < lc ∧ f l0 = nI (bk i) ∧ lc2 = lc) ∨ (h = 0 ∧ (∀ j, j < lc → f j ≠ nI (bk i)) ∧ ((lc < li ∧ l0 = lc ∧ lc2 = lc + 1) ∨ (¬ lc < li ∧ zf_AM g lc l0 ∧ lc2 = lc)))) :
    zm_R li bk (i + 1) (zm_up M l0 (bk i, i)) (c + h) ∧ lc2 = (zm_up M l0 (bk i, i)).length ∧ l0 ≤ M.length := by
  subst hlc
  rcases g1 with ⟨rfl, h2, h3, rfl⟩ | ⟨rfl, h2, h3⟩
  · obtain ⟨a, ha⟩ := zM_hit hM hb h2 h3
    refine ⟨⟨M, c, l0, hR, Or.inl ⟨a, ha⟩, rfl, ?_⟩, ?_, by omega⟩
    · rw [if_pos (zM_mem ha)]
    · rw [zM_len, if_pos h2]
  · have hno := zM_in hM hb h2
    rcases h3 with ⟨a1, a2, a3⟩ | ⟨a1, a2, a3⟩
    · refine ⟨⟨M, c, l0, hR, Or.inr (Or.inl ⟨hno, a1, a2⟩), rfl, ?_⟩, ?_, by omega⟩
      · rw [if_neg (fun ⟨m, hm, e⟩ => hno m hm e)]
      · rw [zM_len, if_neg (by omega)]; exact a3
    · have hl := a2.1
      refine ⟨⟨M, c, l0, hR, Or.inr (Or.inr ⟨hno, a1, zM_min hM a2⟩), rfl, ?_⟩, ?_, by omega⟩
      · rw [if_neg (fun ⟨m, hm, e⟩ => hno m hm e)]
      · rw [zM_len, if_pos hl]; exact a3
theorem zm_R_len {li : Nat} {bk : Nat → Nat} (h1 : 1 ≤ li) : ∀ (i : Nat) (M : List (Nat × Nat)) (c : Nat), zm_R li bk i M c → M.length ≤ li
  | 0, M, c, h => by rw [h.1]; simp
  | i + 1, M, c, ⟨M0, c0, l, h, hc, e, _⟩ => by
    have q := zm_R_len h1 i M0 c0 h
    rw [e, zM_len]
    rcases hc with ⟨a, z⟩ | ⟨-, z1, z2⟩ | ⟨-, z1, v, z2, -⟩
    · rw [if_pos (List.getElem?_eq_some_iff.mp z).1]; exact q
    · rw [if_neg (by omega)]; omega
    · rw [if_pos (List.getElem?_eq_some_iff.mp z2).1]; exact q
/-- what the reference's curve answers -/
def zm_bad (x y : Int32) : Prop := (∀ k, 1 ≤ k → k ≤ 64 → x ≠ nI k) ∨ (∀ k, k ≤ 6 → y ≠ nI k)
def zm_cv (n : Nat) (ad : Nat → Nat) (x y r : Int32) (t : Nat) : Prop :=
  (t = 1 ∧ zm_bad x y) ∨ (t = 0 ∧ ∃ (li bb c : Nat) (M : List (Nat × Nat)), x = nI li ∧ y = nI bb ∧ 1 ≤ li ∧ li ≤ 64 ∧ bb ≤ 6 ∧ r = nI c ∧ zm_R li (fun i => ad i / 2 ^ bb) n M c)
def zm_bs (n : Nat) (ad : Nat → Nat) (x y r : Int32) (t : Nat) : Prop :=
  (t = 1 ∧ zm_bad x y) ∨ (t = 0 ∧ ∃ (li bb c : Nat) (nx : Nat → Nat) (E : List Nat), x = nI li ∧ y = nI bb ∧ 1 ≤ li ∧ li ≤ 64 ∧ bb ≤ 6 ∧ r = nI c ∧ (∀ i, zx_NX n (fun i => ad i / 2 ^ bb) i (nx i)) ∧ zb_R li nx n E c)
def zE_f (E : List Nat) (t k : Nat) : List Nat := (E.take k).filter (fun x => decide (x ≠ t))
theorem zE_tk {E : List Nat} {k : Nat} (h : k < E.length) : E.take (k + 1) = E.take k ++ [E.getD k 0] := by
  rw [List.take_succ, zl_g h]; rfl
theorem zE_t {E : List Nat} {t k : Nat} (h : k < E.length) (ht : ¬ E.getD k 0 = t) : zE_f E t (k + 1) = zE_f E t k ++ [E.getD k 0] := by
  unfold zE_f
  rw [zE_tk h, List.filter_append, List.filter_cons_of_pos (by simp only [decide_eq_true_eq]; exact ht)]; rfl
theorem zE_n {E : List Nat} {t k : Nat} (h : k < E.length) (ht : E.getD k 0 = t) : zE_f E t (k + 1) = zE_f E t k := by
  unfold zE_f
  rw [zE_tk h, List.filter_append, List.filter_cons_of_neg (by rw [ht]; simp)]; simp
theorem zE_ct {E : List Nat} {t k : Nat} (h : k < E.length) (ht : ¬ E.getD k 0 = t) : (E.take (k + 1)).count t = (E.take k).count t := by
  rw [zE_tk h, List.count_append, List.count_singleton, if_neg (by simpa only [beq_iff_eq] using ht), Nat.add_zero]
theorem zE_cn {E : List Nat} {t k : Nat} (h : k < E.length) (ht : E.getD k 0 = t) : (E.take (k + 1)).count t = (E.take k).count t + 1 := by
  rw [zE_tk h, List.count_append, List.count_singleton, if_pos (by rw [ht]; simp)]
theorem zE_le {E : List Nat} {t k : Nat} : (zE_f E t k).length ≤ k := by
  have h1 : (zE_f E t k).length ≤ (E.take k).length := List.length_filter_le _ _
  rw [List.length_take] at h1
  omega
theorem zl_push {f : Nat → Int32} {Ls : List Nat} {v : Nat} (h : zl_at f Ls) (hv : v ≤ 400) : zl_at (upd f Ls.length (nI v)) (Ls ++ [v]) := by
  intro j hj
  rw [List.length_append, List.length_singleton] at hj
  by_cases q : j = Ls.length
  · subst q
    rw [pk_us]
    have e : (Ls ++ [v]).getD Ls.length 0 = v := by simp
    rw [e]; exact ⟨rfl, hv⟩
  · rw [pk_un q]
    have e : (Ls ++ [v]).getD j 0 = Ls.getD j 0 := by
      rw [List.getD_eq_getElem?_getD, List.getD_eq_getElem?_getD, List.getElem?_append_left (by omega)]
    rw [e]; exact h j (by omega)
theorem zl_c {f f2 : Nat → Int32} {Ls : List Nat} (h : zl_at f Ls) (hc : ∀ j, j < Ls.length → f2 j = f j) : zl_at f2 Ls := fun j hj => by
  rw [hc j hj]; exact h j hj
theorem zf_AX_c {g g' : Nat → Int32} {n r : Nat} (hc : ∀ j, j < n → g' j = g j) (h : zf_AX g n r) : zf_AX g' n r := by
  obtain ⟨h1, h2, h3⟩ := h
  exact ⟨h1, fun j hj => by rw [hc j hj, hc r h1]; exact h2 j hj, fun j hj => by rw [hc j (by omega), hc r h1]; exact h3 j hj⟩
/-- the last greatest of a row that may be empty -/
def zf_LX (g : Nat → Int32) (k : Nat) (la : Int32) : Prop := (k = 0 ∧ la = -1) ∨ ∃ m, la = nI m ∧ zf_AX g k m
theorem zf_LX_pos {g : Nat → Int32} {k : Nat} {la : Int32} (h : zf_LX g k la) (hl : ¬ la < 0) : ∃ m, la = nI m ∧ zf_AX g k m := by
  rcases h with ⟨-, h⟩ | h
  · rw [h] at hl; exact absurd (by decide) hl
  · exact h
theorem zf_LX_neg {g : Nat → Int32} {k : Nat} {la : Int32} (hk : k < 2 ^ 31) (h : zf_LX g k la) (hl : la < 0) : k = 0 := by
  rcases h with ⟨h, -⟩ | ⟨m, h, h2⟩
  · exact h
  · rw [h] at hl
    have := h2.1
    exact absurd hl (nI_pos (by omega))
theorem zb_in_len {nx : Nat → Nat} {t : Nat} {E : List Nat} : (zb_in nx t E).length ≤ E.length + 1 := by
  unfold zb_in
  split
  · rw [List.length_append]; simp
  · omega
theorem zb_R_len {li : Nat} {nx : Nat → Nat} (h1 : 1 ≤ li) : ∀ (t : Nat) (E : List Nat) (c : Nat), zb_R li nx t E c → E.length < li
  | 0, E, c, h => by rw [h.1]; simp; omega
  | t + 1, E, c, ⟨E0, c0, h, _, hE⟩ => by
    have q := zb_R_len h1 t E0 c0 h
    have h2 := zb_in_len (nx := nx) (t := t) (E := E0)
    have h3 : ((zb_in nx t E0).filter (fun x => decide (x ≠ t))).length ≤ (zb_in nx t E0).length := List.length_filter_le _ _
    rcases hE with ⟨z, e⟩ | ⟨z, v, ⟨l, hl, -, hp⟩, -⟩
    · rw [e]; exact z
    · have := hp.length_eq
      rw [List.length_eraseIdx_of_lt hl] at this
      omega
theorem zb_R_cnt {li : Nat} {nx : Nat → Nat} (h1 : 1 ≤ li) (h64 : li ≤ 64) : ∀ (t : Nat) (E : List Nat) (c : Nat), zb_R li nx t E c → c ≤ 64 * t
  | 0, E, c, h => by rw [h.2]; omega
  | t + 1, E, c, ⟨E0, c0, h, hc, _⟩ => by
    have q := zb_R_cnt h1 h64 t E0 c0 h
    have q2 := zb_R_len h1 t E0 c0 h
    have h2 := zb_in_len (nx := nx) (t := t) (E := E0)
    have h3 : (zb_in nx t E0).count t ≤ (zb_in nx t E0).length := List.count_le_length
    omega
theorem zE_drop {f : Nat → Int32} {F : List Nat} {m : Nat} (hF : zl_at f F) (hm : m < F.length) : zl_at (upd f m (nI (F.getD (F.length - 1) 0))) ((F.set m (F.getD (F.length - 1) 0)).dropLast) ∧ List.Perm ((F.set m (F.getD (F.length - 1) 0)).dropLast) (F.eraseIdx m) ∧ ((F.set m (F.getD (F.length - 1) 0)).dropLast).length = F.length - 1 := by
  have hlen : ((F.set m (F.getD (F.length - 1) 0)).dropLast).length = F.length - 1 := by simp
  refine ⟨fun j hj => ?_, ?_, hlen⟩
  · rw [hlen] at hj
    have e : ((F.set m (F.getD (F.length - 1) 0)).dropLast).getD j 0 = if j = m then F.getD (F.length - 1) 0 else F.getD j 0 := by
      rw [List.getD_eq_getElem?_getD, List.getElem?_dropLast, if_pos (by simp; omega), List.getElem?_set]
      by_cases q : m = j
      · rw [if_pos q, if_pos (by omega), if_pos q.symm]; rfl
      · rw [if_neg q, if_neg (fun z => q z.symm), List.getD_eq_getElem?_getD]
    rw [e]
    by_cases q : j = m
    · rw [if_pos q, q, pk_us]; exact ⟨rfl, (hF _ (by omega)).2⟩
    · rw [if_neg q, pk_un q]; exact hF j (by omega)
  · -- both are F without one m and with one last
    have h1 : List.Perm (F.set m (F.getD (F.length - 1) 0)) (F.getD (F.length - 1) 0 :: F.eraseIdx m) := zp_set _ F m hm
    have hne : F.set m (F.getD (F.length - 1) 0) ≠ [] := by
      intro z
      have := congrArg List.length z
      rw [List.length_set] at this
      simp at this
      rw [this] at hm
      simp at hm
    have h2 := List.dropLast_concat_getLast hne
    have hlast : (F.set m (F.getD (F.length - 1) 0)).getLast hne = F.getD (F.length - 1) 0 := by
      rw [List.getLast_eq_getElem]
      simp only [List.length_set]
      by_cases q : m = F.length - 1
      · subst q; simp
      · rw [List.getElem_set_ne q]
        simp [show F.length - 1 < F.length by omega]
    rw [hlast] at h2
    rw [← h2] at h1
    have h3 : List.Perm (F.getD (F.length - 1) 0 :: (F.set m (F.getD (F.length - 1) 0)).dropLast) (F.getD (F.length - 1) 0 :: F.eraseIdx m) := (List.perm_append_comm (l₁ := [F.getD (F.length - 1) 0])).trans h1
    exact h3.cons_inv
