/-! PURE ROWS 3: the best: the class's lines against the reference's kept ends -/
def zb_fin (L : List Nat) : List Nat := L.filter (fun x => decide (x ≠ 400))
/-- what the reference's row of ends is when the step t begins -/
def zb_in (nx : Nat → Nat) (t : Nat) (E : List Nat) : List Nat := if 0 < t ∧ nx (t - 1) ≠ 400 then E ++ [nx (t - 1)] else E
def zb_R (lines : Nat) (nx : Nat → Nat) : Nat → List Nat → Nat → Prop
  | 0, E, c => E = [] ∧ c = 0
  | t + 1, E, c => ∃ (E0 : List Nat) (c0 : Nat), zb_R lines nx t E0 c0 ∧ c = c0 + (zb_in nx t E0).count t ∧
    (((zb_in nx t E0).filter (fun x => decide (x ≠ t))).length < lines ∧ E = (zb_in nx t E0).filter (fun x => decide (x ≠ t)) ∨
     ¬ ((zb_in nx t E0).filter (fun x => decide (x ≠ t))).length < lines ∧ ∃ v, (∃ l, l < ((zb_in nx t E0).filter (fun x => decide (x ≠ t))).length ∧ ((zb_in nx t E0).filter (fun x => decide (x ≠ t)))[l]? = some v ∧ List.Perm E (((zb_in nx t E0).filter (fun x => decide (x ≠ t))).eraseIdx l)) ∧ ∀ w ∈ (zb_in nx t E0).filter (fun x => decide (x ≠ t)), w ≤ v)
def zb_T (nx : Nat → Nat) (t : Nat) (L E : List Nat) : Prop :=
  ((t = 0 ∧ L = [] ∧ E = []) ∨ ∃ O, 0 < t ∧ L = nx (t - 1) :: O ∧ List.Perm E (zb_fin O)) ∧ (zb_fin L).Nodup ∧ ∀ x ∈ L, ∃ u, u < t ∧ x = nx u
theorem zb_in_T {nx : Nat → Nat} {t : Nat} {L E : List Nat} (h : zb_T nx t L E) : List.Perm (zb_in nx t E) (zb_fin L) := by
  obtain ⟨⟨rfl, rfl, rfl⟩ | ⟨O, h0, rfl, hp⟩, -, -⟩ := h
  · simp [zb_in, zb_fin]
  · unfold zb_in
    by_cases q : nx (t - 1) = 400
    · rw [if_neg (fun z => z.2 q)]
      have : zb_fin (nx (t - 1) :: O) = zb_fin O := by simp [zb_fin, q]
      rw [this]; exact hp
    · rw [if_pos ⟨h0, q⟩]
      have : zb_fin (nx (t - 1) :: O) = nx (t - 1) :: zb_fin O := by simp [zb_fin, q]
      rw [this]
      exact List.perm_append_comm.trans (hp.cons _)
theorem zb_er {L : List Nat} {l v : Nat} (h : L[l]? = some v) : List.Perm L (v :: L.eraseIdx l) := by
  obtain ⟨hl, e⟩ := List.getElem?_eq_some_iff.mp h
  have := zp_er L l hl
  rwa [e] at this
theorem zb_tie {n lines : Nat} {bk nx : Nat → Nat} (hn : n ≤ 400) (hl : 1 ≤ lines) (hx : ∀ i, i < n → zx_NX n bk i (nx i)) : ∀ (t : Nat), t ≤ n → ∀ (L : List Nat) (c : Nat) (E : List Nat) (c' : Nat), zc_R true lines nx t L c → zb_R lines nx t E c' → c = c' ∧ zb_T nx t L E
  | 0, _, L, c, E, c', h, h' => by
    obtain ⟨rfl, rfl⟩ := h
    obtain ⟨rfl, rfl⟩ := h'
    exact ⟨rfl, Or.inl ⟨rfl, rfl, rfl⟩, by simp [zb_fin], fun x h => by cases h⟩
  | t + 1, ht, L, c, E, c', ⟨L0, c0, l, h, hc, eL, ec⟩, ⟨E0, d0, h', ec', hE⟩ => by
    obtain ⟨e0, hT⟩ := zb_tie hn hl hx t (by omega) L0 c0 E0 d0 h h'
    have hin := zb_in_T hT
    have hlen := zc_R_len hl t L0 c0 h
    obtain ⟨-, hnd, hval⟩ := hT
    have htn : t < n := by omega
    have h4 : t ≠ 400 := by omega
    generalize zb_in nx t E0 = E1 at hin ec' hE
    have hmem : t ∈ zb_fin L0 ↔ t ∈ L0 := by simp [zb_fin, h4]
    have hcnt : E1.count t = if t ∈ L0 then 1 else 0 := by
      rw [hin.count_eq, hnd.count]
      by_cases q : t ∈ L0
      · rw [if_pos (hmem.mpr q), if_pos q]
      · rw [if_neg (fun z => q (hmem.mp z)), if_neg q]
    have hE2 : List.Perm (E1.filter (fun x => decide (x ≠ t))) ((zb_fin L0).filter (fun x => decide (x ≠ t))) := hin.filter _
    generalize E1.filter (fun x => decide (x ≠ t)) = E2 at hE2 hE
    have hv4 : ∀ x ∈ L0, x ≤ 400 := fun x hx' => by
      obtain ⟨u, hu, e⟩ := hval x hx'
      rw [e]
      exact zx_NX_le hn (hx u (by omega))
    have hfl : ∀ K : List Nat, (zb_fin K).length ≤ K.length := fun K => List.length_filter_le _ _
    -- what is left of the class's lines
    have key : List.Perm E (zb_fin (L0.eraseIdx l)) := by
      rcases hc with ⟨hll, hlt⟩ | ⟨hnt, hlt, hle⟩ | ⟨hnt, hge, hv⟩
      · have hP := zb_er hlt
        have hPf : List.Perm (zb_fin L0) (t :: zb_fin (L0.eraseIdx l)) := by
          have := hP.filter (fun x => decide (x ≠ 400))
          rw [List.filter_cons_of_pos (by simp [h4])] at this
          exact this
        have hnt : t ∉ zb_fin (L0.eraseIdx l) := (List.nodup_cons.mp (hPf.nodup_iff.mp hnd)).1
        have hE3 : List.Perm E2 (zb_fin (L0.eraseIdx l)) := by
          refine hE2.trans ?_
          have := hPf.filter (fun x => decide (x ≠ t))
          rw [List.filter_cons_of_neg (by simp)] at this
          have e2 : (zb_fin (L0.eraseIdx l)).filter (fun x => decide (x ≠ t)) = zb_fin (L0.eraseIdx l) := List.filter_eq_self.mpr (fun a ha => by
            have : a ≠ t := fun e => hnt (e ▸ ha)
            simp [this])
          rw [e2] at this
          exact this
        have hlE : E2.length < lines := by
          have a1 := hE3.length_eq
          have a2 := hfl (L0.eraseIdx l)
          rw [List.length_eraseIdx_of_lt hll] at a2
          omega
        rcases hE with ⟨-, e⟩ | ⟨z, -⟩
        · rw [e]; exact hE3
        · exact absurd hlE z
      · have hE3 : List.Perm E2 (zb_fin L0) := by
          refine hE2.trans ?_
          rw [List.filter_eq_self.mpr (fun a ha => by
            have : a ≠ t := fun e => hnt (hmem.mp (e ▸ ha))
            simp [this])]
        have hlE : E2.length < lines := by
          have a1 := hE3.length_eq
          have a2 := hfl L0
          omega
        rcases hE with ⟨-, e⟩ | ⟨z, -⟩
        · rw [e, hle, List.eraseIdx_of_length_le (Nat.le_refl _)]; exact hE3
        · exact absurd hlE z
      · have hE3 : List.Perm E2 (zb_fin L0) := by
          refine hE2.trans ?_
          rw [List.filter_eq_self.mpr (fun a ha => by
            have : a ≠ t := fun e => hnt (hmem.mp (e ▸ ha))
            simp [this])]
        obtain ⟨-, v, hlv, hmax⟩ : true = true ∧ ∃ v, L0[l]? = some v ∧ ∀ w ∈ L0, w ≤ v := by
          rcases hv with ⟨z, -⟩ | z
          · cases z
          · exact z
        have hP := zb_er hlv
        have hll := (List.getElem?_eq_some_iff.mp hlv).1
        by_cases q : v = 400
        · have hPf : List.Perm (zb_fin L0) (zb_fin (L0.eraseIdx l)) := by
            have := hP.filter (fun x => decide (x ≠ 400))
            rw [List.filter_cons_of_neg (by simp [q])] at this
            exact this
          have hlE : E2.length < lines := by
            have a1 := (hE3.trans hPf).length_eq
            have a2 := hfl (L0.eraseIdx l)
            rw [List.length_eraseIdx_of_lt hll] at a2
            omega
          rcases hE with ⟨-, e⟩ | ⟨z, -⟩
          · rw [e]; exact hE3.trans hPf
          · exact absurd hlE z
        · have hall : ∀ w ∈ L0, w ≠ 400 := fun w hw e => by
            have a1 := hmax w hw
            have a2 := hv4 v (List.mem_of_getElem? hlv)
            omega
          have hfe : zb_fin L0 = L0 := List.filter_eq_self.mpr (fun a ha => by simp [hall a ha])
          have hfe2 : zb_fin (L0.eraseIdx l) = L0.eraseIdx l := List.filter_eq_self.mpr (fun a ha => by simp [hall a ((List.eraseIdx_sublist L0 l).subset ha)])
          rw [hfe] at hE3
          rw [hfe2]
          rcases hE with ⟨z, -⟩ | ⟨-, v', ⟨l', hl', hlv', hEp⟩, hmax'⟩
          · have := hE3.length_eq
            omega
          · have hvv : v' = v := by
              have a1 := hmax v' (hE3.mem_iff.mp (List.mem_of_getElem? hlv'))
              have a2 := hmax' v (hE3.mem_iff.mpr (List.mem_of_getElem? hlv))
              omega
            subst hvv
            have h1 := ((zb_er hlv').symm.trans hE3).trans hP
            exact hEp.trans h1.cons_inv
    refine ⟨by rw [ec, ec', hcnt, e0], Or.inr ⟨L0.eraseIdx l, by omega, by rw [eL]; rfl, key⟩, ?_, ?_⟩
    · rw [eL]
      have hsub : (zb_fin (L0.eraseIdx l)).Nodup := List.Nodup.sublist ((List.eraseIdx_sublist L0 l).filter _) hnd
      by_cases q : nx t = 400
      · have : zb_fin (nx t :: L0.eraseIdx l) = zb_fin (L0.eraseIdx l) := by simp [zb_fin, q]
        rw [this]; exact hsub
      · have : zb_fin (nx t :: L0.eraseIdx l) = nx t :: zb_fin (L0.eraseIdx l) := by simp [zb_fin, q]
        rw [this]
        refine List.nodup_cons.mpr ⟨fun hm => ?_, hsub⟩
        have hm2 : nx t ∈ L0 := (List.eraseIdx_sublist L0 l).subset (List.mem_filter.mp hm).1
        obtain ⟨u, hu, e⟩ := hval _ hm2
        exact zx_NX_inj q (e ▸ hx u (by omega)) (hx t htn) hu
    · rw [eL]
      intro x hx'
      rcases List.mem_cons.mp hx' with e | hm
      · exact ⟨t, by omega, e⟩
      · obtain ⟨u, hu, e⟩ := hval x ((List.eraseIdx_sublist L0 l).subset hm)
        exact ⟨u, by omega, e⟩
/-- THE BEST: class and reference count the same hits -/
theorem zb_best {n lines : Nat} {bk nx : Nat → Nat} (hn : n ≤ 400) (hl : 1 ≤ lines) (hx : ∀ i, i < n → zx_NX n bk i (nx i)) {L : List Nat} {c : Nat} {E : List Nat} {c' : Nat} (h : zc_R true lines nx n L c) (h' : zb_R lines nx n E c') : c = c' :=
  (zb_tie hn hl hx n (Nat.le_refl _) L c E c' h h').1
