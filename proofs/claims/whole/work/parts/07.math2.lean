/-! PURE ROWS 2: the row of accesses: the class's lines (by next uses), the reference's lines (by blocks) and its ends -/
theorem zp_er {α : Type} : ∀ (l : List α) (i : Nat) (h : i < l.length), List.Perm l (l[i] :: l.eraseIdx i)
  | a :: l, 0, _ => List.Perm.refl _
  | a :: l, i + 1, h => by
    have q := zp_er l i (by simpa using h)
    exact (List.Perm.cons a q).trans (List.Perm.swap _ _ _)
theorem zp_set {α : Type} (x : α) : ∀ (l : List α) (i : Nat), i < l.length → List.Perm (l.set i x) (x :: l.eraseIdx i)
  | a :: l, 0, _ => List.Perm.refl _
  | a :: l, i + 1, h => by
    have q := zp_set x l i (by simpa using h)
    exact (List.Perm.cons a q).trans (List.Perm.swap _ _ _)
theorem zp_map {α β : Type} (f : α → β) : ∀ (l : List α) (i : Nat), (l.map f).eraseIdx i = (l.eraseIdx i).map f
  | [], _ => rfl
  | a :: l, 0 => rfl
  | a :: l, i + 1 => by
    show f a :: (l.map f).eraseIdx i = f a :: (l.eraseIdx i).map f
    rw [zp_map f l i]
/-- j is the next use behind i, 400 if there is none -/
def zx_NX (n : Nat) (bk : Nat → Nat) (i j : Nat) : Prop :=
  (i < j ∧ j < n ∧ bk j = bk i ∧ ∀ k, i < k → k < j → bk k ≠ bk i) ∨ (j = 400 ∧ ∀ k, i < k → k < n → bk k ≠ bk i)
theorem zx_NX_le {n : Nat} {bk : Nat → Nat} {i j : Nat} (hn : n ≤ 400) (h : zx_NX n bk i j) : j ≤ 400 := by
  rcases h with h | h
  · omega
  · omega
/-- two blocks can't have the same next use -/
theorem zx_NX_inj {n : Nat} {bk : Nat → Nat} {i i' j : Nat} (hj : j ≠ 400) (h : zx_NX n bk i j) (h' : zx_NX n bk i' j) (hl : i < i') : False := by
  rcases h with ⟨h1, h2, h3, h4⟩ | ⟨h1, -⟩
  · rcases h' with ⟨k1, k2, k3, k4⟩ | ⟨k1, -⟩
    · exact h4 i' hl k1 (by rw [← k3, h3])
    · exact hj k1
  · exact hj h1
/-- which line the class takes at the access x: one that is needed now, a new one, or the victim's -/
def zc_ch (bst : Bool) (lines : Nat) (L : List Nat) (x l : Nat) : Prop :=
  (l < L.length ∧ L[l]? = some x) ∨ (x ∉ L ∧ L.length < lines ∧ l = L.length) ∨
  (x ∉ L ∧ ¬ L.length < lines ∧ ((bst = false ∧ l + 1 = L.length) ∨ (bst = true ∧ ∃ v, L[l]? = some v ∧ ∀ w ∈ L, w ≤ v)))
def zc_R (bst : Bool) (lines : Nat) (nx : Nat → Nat) : Nat → List Nat → Nat → Prop
  | 0, L, c => L = [] ∧ c = 0
  | i + 1, L, c => ∃ (L0 : List Nat) (c0 l : Nat), zc_R bst lines nx i L0 c0 ∧ zc_ch bst lines L0 i l ∧ L = nx i :: L0.eraseIdx l ∧ c = c0 + if i ∈ L0 then 1 else 0
theorem zc_R_len {bst : Bool} {lines : Nat} {nx : Nat → Nat} (h1 : 1 ≤ lines) : ∀ (i : Nat) (L : List Nat) (c : Nat), zc_R bst lines nx i L c → L.length ≤ lines
  | 0, L, c, h => by rw [h.1]; simp
  | i + 1, L, c, ⟨L0, c0, l, h, hc, e, _⟩ => by
    have q := zc_R_len h1 i L0 c0 h
    rw [e]
    rcases hc with ⟨a, b⟩ | ⟨a, b, d⟩ | ⟨a, b, d⟩
    · rw [List.length_cons, List.length_eraseIdx_of_lt a]; omega
    · have := List.length_eraseIdx_le L0 l
      rw [List.length_cons]; omega
    · have hl : l < L0.length := by
        rcases d with ⟨-, d⟩ | ⟨-, v, d, -⟩
        · omega
        · exact (List.getElem?_eq_some_iff.mp d).1
      rw [List.length_cons, List.length_eraseIdx_of_lt hl]; omega
theorem zc_R_cnt {bst : Bool} {lines : Nat} {nx : Nat → Nat} : ∀ (i : Nat) (L : List Nat) (c : Nat), zc_R bst lines nx i L c → c ≤ i
  | 0, L, c, h => by rw [h.2]; exact Nat.le_refl _
  | i + 1, L, c, ⟨L0, c0, l, h, hc, e, ec⟩ => by
    have q := zc_R_cnt i L0 c0 h
    rw [ec]
    split <;> omega
/-- which line the reference takes: (block, when asked for) -/
def zm_ch (lines : Nat) (M : List (Nat × Nat)) (b l : Nat) : Prop :=
  (∃ a, M[l]? = some (b, a)) ∨ ((∀ m ∈ M, m.1 ≠ b) ∧ M.length < lines ∧ l = M.length) ∨
  ((∀ m ∈ M, m.1 ≠ b) ∧ ¬ M.length < lines ∧ ∃ v, M[l]? = some v ∧ ∀ w ∈ M, v.2 ≤ w.2)
def zm_up (M : List (Nat × Nat)) (l : Nat) (x : Nat × Nat) : List (Nat × Nat) := if l < M.length then M.set l x else M ++ [x]
def zm_R (lines : Nat) (bk : Nat → Nat) : Nat → List (Nat × Nat) → Nat → Prop
  | 0, M, c => M = [] ∧ c = 0
  | i + 1, M, c => ∃ (M0 : List (Nat × Nat)) (c0 l : Nat), zm_R lines bk i M0 c0 ∧ zm_ch lines M0 (bk i) l ∧ M = zm_up M0 l (bk i, i) ∧ c = c0 + if ∃ m ∈ M0, m.1 = bk i then 1 else 0
theorem zm_R_cnt {lines : Nat} {bk : Nat → Nat} : ∀ (i : Nat) (M : List (Nat × Nat)) (c : Nat), zm_R lines bk i M c → c ≤ i
  | 0, M, c, h => by rw [h.2]; exact Nat.le_refl _
  | i + 1, M, c, ⟨M0, c0, l, h, hc, e, ec⟩ => by
    have q := zm_R_cnt i M0 c0 h
    rw [ec]
    split <;> omega
/-- the tie: the times of the blocks that are held, the latest first -/
def zc_T (n : Nat) (bk nx : Nat → Nat) (i : Nat) (L : List Nat) (M : List (Nat × Nat)) (ts : List Nat) : Prop :=
  L = ts.map nx ∧ List.Perm M (ts.map fun t => (bk t, t)) ∧ ts.Pairwise (fun a b => b < a) ∧ ∀ t ∈ ts, t < i ∧ ∀ k, t < k → k < i → bk k ≠ bk t
theorem zc_hit {n : Nat} {bk nx : Nat → Nat} {i t : Nat} (hn : n ≤ 400) (hi : i < n) (hx : zx_NX n bk t (nx t)) (ht : t < i) (hk : ∀ k, t < k → k < i → bk k ≠ bk t) : nx t = i ↔ bk t = bk i := by
  constructor
  · intro e
    rcases hx with ⟨h1, h2, h3, -⟩ | ⟨h1, -⟩
    · rw [← h3, e]
    · omega
  · intro e
    rcases hx with ⟨h1, h2, h3, h4⟩ | ⟨-, h2⟩
    · rcases Nat.lt_trichotomy (nx t) i with q | q | q
      · exact absurd h3 (hk _ h1 q)
      · exact q
      · exact absurd e.symm (h4 i ht q)
    · exact absurd e.symm (h2 i ht hi)
theorem zc_tie {n lines : Nat} {bk nx : Nat → Nat} (hn : n ≤ 400) (hl : 1 ≤ lines) (hx : ∀ i, i < n → zx_NX n bk i (nx i)) : ∀ (i : Nat), i ≤ n → ∀ (L : List Nat) (c : Nat) (M : List (Nat × Nat)) (c' : Nat), zc_R false lines nx i L c → zm_R lines bk i M c' → c = c' ∧ ∃ ts, zc_T n bk nx i L M ts
  | 0, _, L, c, M, c', h, h' => by
    obtain ⟨rfl, rfl⟩ := h
    obtain ⟨rfl, rfl⟩ := h'
    exact ⟨rfl, [], rfl, List.Perm.refl _, List.Pairwise.nil, fun t h => by cases h⟩
  | i + 1, hi, L, c, M, c', ⟨L0, c0, l, h, hc, eL, ec⟩, ⟨M0, d0, l', h', hc', eM, ec'⟩ => by
    obtain ⟨e0, ts, hL, hM, hts, hk⟩ := zc_tie hn hl hx i (by omega) L0 c0 M0 d0 h h'
    have hin : i < n := by omega
    have hit : ∀ t ∈ ts, (nx t = i ↔ bk t = bk i) := fun t ht => zc_hit hn hin (hx t (by have := (hk t ht).1; omega)) (hk t ht).1 (hk t ht).2
    have hm1 : i ∈ L0 ↔ ∃ t ∈ ts, bk t = bk i := by
      rw [hL, List.mem_map]
      constructor
      · rintro ⟨t, ht, e⟩; exact ⟨t, ht, (hit t ht).mp e⟩
      · rintro ⟨t, ht, e⟩; exact ⟨t, ht, (hit t ht).mpr e⟩
    have hm2 : (∃ m ∈ M0, m.1 = bk i) ↔ ∃ t ∈ ts, bk t = bk i := by
      constructor
      · rintro ⟨m, hm, e⟩
        have := hM.mem_iff.mp hm
        obtain ⟨t, ht, e2⟩ := List.mem_map.mp this
        exact ⟨t, ht, by rw [← e, ← e2]⟩
      · rintro ⟨t, ht, e⟩
        exact ⟨(bk t, t), hM.mem_iff.mpr (List.mem_map.mpr ⟨t, ht, rfl⟩), e⟩
    have hone : ∀ t ∈ ts, ∀ t' ∈ ts, bk t = bk i → bk t' = bk i → t = t' := by
      intro t ht t' ht' e e'
      rcases Nat.lt_trichotomy t t' with q | q | q
      · exact absurd (e'.trans e.symm) ((hk t ht).2 t' q (hk t' ht').1)
      · exact q
      · exact absurd (e.trans e'.symm) ((hk t' ht').2 t q (hk t ht).1)
    have hlen : L0.length = ts.length := by rw [hL, List.length_map]
    have hlenM : M0.length = ts.length := by rw [hM.length_eq, List.length_map]
    have hnew : ∀ us : List Nat, us.Sublist ts → (∀ t ∈ us, bk t ≠ bk i) → (i :: us).Pairwise (fun a b => b < a) ∧ ∀ t ∈ i :: us, t < i + 1 ∧ ∀ k, t < k → k < i + 1 → bk k ≠ bk t := by
      intro us hs hne
      refine ⟨List.Pairwise.cons (fun t ht => (hk t (hs.subset ht)).1) (hts.sublist hs), fun t ht => ?_⟩
      rcases List.mem_cons.mp ht with e | ht2
      · subst e
        exact ⟨by omega, fun k h1 h2 => by omega⟩
      · refine ⟨by have := (hk t (hs.subset ht2)).1; omega, fun k h1 h2 => ?_⟩
        rcases Nat.lt_or_ge k i with q | q
        · exact (hk t (hs.subset ht2)).2 k h1 q
        · have : k = i := by omega
          rw [this]
          exact fun e => hne t ht2 e.symm
    refine ⟨?_, ?_⟩
    · rw [ec, ec', e0]
      by_cases q : ∃ t ∈ ts, bk t = bk i
      · rw [if_pos (hm1.mpr q), if_pos (hm2.mpr q)]
      · rw [if_neg (fun z => q (hm1.mp z)), if_neg (fun z => q (hm2.mp z))]
    · by_cases q : ∃ t ∈ ts, bk t = bk i
      · -- a hit
        obtain ⟨t0, ht0, hb0⟩ := q
        have hiL : i ∈ L0 := hm1.mpr ⟨t0, ht0, hb0⟩
        have hl1 : l < L0.length ∧ L0[l]? = some i := by
          rcases hc with z | ⟨z, -⟩ | ⟨z, -⟩
          · exact z
          · exact absurd hiL z
          · exact absurd hiL z
        have hll : l < ts.length := by omega
        have hnl : nx (ts[l]) = i := by
          have := hl1.2
          rw [hL, List.getElem?_map, List.getElem?_eq_getElem hll] at this
          exact Option.some.inj this
        have htl : ts[l] ∈ ts := List.getElem_mem hll
        have hbl : bk (ts[l]) = bk i := (hit _ htl).mp hnl
        have hl2 : ∃ a, M0[l']? = some (bk i, a) := by
          obtain ⟨m, hm, e⟩ := hm2.mpr ⟨t0, ht0, hb0⟩
          rcases hc' with z | ⟨z, -⟩ | ⟨z, -⟩
          · exact z
          · exact absurd e (z m hm)
          · exact absurd e (z m hm)
        obtain ⟨a, ha⟩ := hl2
        obtain ⟨hlM, ha'⟩ := List.getElem?_eq_some_iff.mp ha
        have hma : (bk i, a) ∈ M0 := List.mem_of_getElem? ha
        obtain ⟨t1, ht1, e1⟩ := List.mem_map.mp (hM.mem_iff.mp hma)
        have hb1 : bk t1 = bk i := congrArg Prod.fst e1
        have ha1 : t1 = a := congrArg Prod.snd e1
        have ht1l : t1 = ts[l] := hone t1 ht1 _ htl hb1 hbl
        have hP := zp_er ts l hll
        have hPM : List.Perm (M0.eraseIdx l') ((ts.eraseIdx l).map fun t => (bk t, t)) := by
          have h1 := zp_er M0 l' hlM
          have h2 := (h1.symm.trans hM).trans (hP.map fun t => (bk t, t))
          rw [List.map_cons] at h2
          have h3 : M0[l'] = (bk (ts[l]), ts[l]) := by rw [ha', ← ht1l, hb1, ha1]
          rw [h3] at h2
          exact h2.cons_inv
        have hne : ∀ t ∈ ts.eraseIdx l, bk t ≠ bk i := by
          intro t ht e
          have hnd : ts.Nodup := hts.imp (fun h => by omega)
          have hnd2 := (hP.nodup_iff.mp hnd)
          have : t = ts[l] := hone t ((List.eraseIdx_sublist ts l).subset ht) _ htl e hbl
          rw [this] at ht
          exact (List.nodup_cons.mp hnd2).1 ht
        obtain ⟨p1, p2⟩ := hnew (ts.eraseIdx l) (List.eraseIdx_sublist ts l) hne
        refine ⟨i :: ts.eraseIdx l, ?_, ?_, p1, p2⟩
        · rw [eL, hL, zp_map, List.map_cons]
        · rw [eM, zm_up, if_pos hlM, List.map_cons]
          exact (zp_set _ M0 l' hlM).trans (hPM.cons _)
      · have hniL : i ∉ L0 := fun z => q (hm1.mp z)
        have hnM : ¬ ∃ m ∈ M0, m.1 = bk i := fun z => q (hm2.mp z)
        have hneall : ∀ t ∈ ts, bk t ≠ bk i := fun t ht e => q ⟨t, ht, e⟩
        by_cases hf : L0.length < lines
        · have hl1 : l = L0.length := by
            rcases hc with ⟨-, z⟩ | ⟨-, -, z⟩ | ⟨-, z, -⟩
            · exact absurd (List.mem_of_getElem? z) hniL
            · exact z
            · exact absurd hf z
          have hl2 : l' = M0.length := by
            rcases hc' with ⟨a, z⟩ | ⟨-, -, z⟩ | ⟨-, z, -⟩
            · exact absurd ⟨_, List.mem_of_getElem? z, rfl⟩ hnM
            · exact z
            · omega
          obtain ⟨p1, p2⟩ := hnew ts (List.Sublist.refl _) hneall
          refine ⟨i :: ts, ?_, ?_, p1, p2⟩
          · rw [eL, hl1, List.eraseIdx_of_length_le (Nat.le_refl _), hL, List.map_cons]
          · rw [eM, zm_up, if_neg (by omega), List.map_cons]
            exact List.perm_append_comm.trans (hM.cons _)
        · have hl1 : l + 1 = L0.length := by
            rcases hc with ⟨-, z⟩ | ⟨-, z, -⟩ | ⟨-, -, z⟩
            · exact absurd (List.mem_of_getElem? z) hniL
            · exact absurd z hf
            · rcases z with ⟨-, z⟩ | ⟨z, -⟩
              · exact z
              · cases z
          have hl2 : ∃ v, M0[l']? = some v ∧ ∀ w ∈ M0, v.2 ≤ w.2 := by
            rcases hc' with ⟨a, z⟩ | ⟨-, z, -⟩ | ⟨-, -, z⟩
            · exact absurd ⟨_, List.mem_of_getElem? z, rfl⟩ hnM
            · omega
            · exact z
          obtain ⟨v, hv, hvm⟩ := hl2
          obtain ⟨hlM, hv'⟩ := List.getElem?_eq_some_iff.mp hv
          have hll : l < ts.length := by omega
          obtain ⟨t1, ht1, e1⟩ := List.mem_map.mp (hM.mem_iff.mp (List.mem_of_getElem? hv))
          have hmin : ∀ t ∈ ts, ts[l] ≤ t := by
            intro t ht
            obtain ⟨j, hj, e⟩ := List.getElem_of_mem ht
            rcases Nat.lt_trichotomy j l with z | z | z
            · have := (List.pairwise_iff_getElem.mp hts) j l hj hll z
              omega
            · subst z; omega
            · omega
          have ht1l : t1 = ts[l] := by
            have a1 := hmin t1 ht1
            have a2 := hvm _ (hM.mem_iff.mpr (List.mem_map.mpr ⟨ts[l], List.getElem_mem hll, rfl⟩))
            rw [← e1] at a2
            simp only at a2
            omega
          have hP := zp_er ts l hll
          have hPM : List.Perm (M0.eraseIdx l') ((ts.eraseIdx l).map fun t => (bk t, t)) := by
            have h1 := zp_er M0 l' hlM
            have h2 := (h1.symm.trans hM).trans (hP.map fun t => (bk t, t))
            rw [List.map_cons] at h2
            have h3 : M0[l'] = (bk (ts[l]), ts[l]) := by rw [hv', ← e1, ht1l]
            rw [h3] at h2
            exact h2.cons_inv
          obtain ⟨p1, p2⟩ := hnew (ts.eraseIdx l) (List.eraseIdx_sublist ts l) (fun t ht => hneall t ((List.eraseIdx_sublist ts l).subset ht))
          refine ⟨i :: ts.eraseIdx l, ?_, ?_, p1, p2⟩
          · rw [eL, hL, zp_map, List.map_cons]
          · rw [eM, zm_up, if_pos hlM, List.map_cons]
            exact (zp_set _ M0 l' hlM).trans (hPM.cons _)
/-- THE CURVE: class and reference count the same hits -/
theorem zc_curve {n lines : Nat} {bk nx : Nat → Nat} (hn : n ≤ 400) (hl : 1 ≤ lines) (hx : ∀ i, i < n → zx_NX n bk i (nx i)) {L : List Nat} {c : Nat} {M : List (Nat × Nat)} {c' : Nat} (h : zc_R false lines nx n L c) (h' : zm_R lines bk n M c') : c = c' :=
  (zc_tie hn hl hx n (Nat.le_refl _) L c M c' h h').1
