/-! PURE ROWS 1: first places, first least and greatest places, counts -/
/-- r is the first place below n at which g is b, or -1 -/
def zf_FP (g : Nat → Int32) (n : Nat) (b r : Int32) : Prop :=
  (∃ k, k < n ∧ r = nI k ∧ g k = b ∧ ∀ j, j < k → g j ≠ b) ∨ (r = -1 ∧ ∀ j, j < n → g j ≠ b)
theorem zf_FP_u {g : Nat → Int32} {n : Nat} {b r r' : Int32} (h : zf_FP g n b r) (h' : zf_FP g n b r') : r = r' := by
  rcases h with ⟨k, hk, e, hg, hm⟩ | ⟨e, hm⟩ <;> rcases h' with ⟨k', hk', e', hg', hm'⟩ | ⟨e', hm'⟩
  · have : k = k' := by
      rcases Nat.lt_trichotomy k k' with q | q | q
      · exact absurd hg (hm' k q)
      · exact q
      · exact absurd hg' (hm k' q)
    rw [e, e', this]
  · exact absurd hg (hm' k hk)
  · exact absurd hg' (hm k' hk')
  · rw [e, e']
theorem zf_FP_c {g g' : Nat → Int32} {n : Nat} {b r : Int32} (hc : ∀ j, j < n → g' j = g j) (h : zf_FP g n b r) : zf_FP g' n b r := by
  rcases h with ⟨k, hk, e, hg, hm⟩ | ⟨e, hm⟩
  · exact Or.inl ⟨k, hk, e, by rw [hc k hk]; exact hg, fun j hj => by rw [hc j (by omega)]; exact hm j hj⟩
  · exact Or.inr ⟨e, fun j hj => by rw [hc j hj]; exact hm j hj⟩
theorem zf_ilt {x y : Int32} : x < y ↔ x.toInt < y.toInt := Int32.lt_iff_toInt_lt
theorem zf_ile {x y : Int32} : x ≤ y ↔ x.toInt ≤ y.toInt := Int32.le_iff_toInt_le
/-- r is the first place below n at which g is least -/
def zf_AM (g : Nat → Int32) (n r : Nat) : Prop := r < n ∧ (∀ j, j < n → ¬ g j < g r) ∧ ∀ j, j < r → g r < g j
theorem zf_AM_u {g : Nat → Int32} {n r r' : Nat} (h : zf_AM g n r) (h' : zf_AM g n r') : r = r' := by
  obtain ⟨h1, h2, h3⟩ := h
  obtain ⟨k1, k2, k3⟩ := h'
  rcases Nat.lt_trichotomy r r' with q | q | q
  · exact absurd (k3 r q) (h2 r' k1)
  · exact q
  · exact absurd (h3 r' q) (k2 r h1)
theorem zf_AM_c {g g' : Nat → Int32} {n r : Nat} (hc : ∀ j, j < n → g' j = g j) (h : zf_AM g n r) : zf_AM g' n r := by
  obtain ⟨h1, h2, h3⟩ := h
  exact ⟨h1, fun j hj => by rw [hc j hj, hc r h1]; exact h2 j hj, fun j hj => by rw [hc j (by omega), hc r h1]; exact h3 j hj⟩
theorem zf_AM_1 {g : Nat → Int32} : zf_AM g 1 0 := ⟨by omega, fun j hj => by
  have : j = 0 := by omega
  subst this
  rw [zf_ilt]; omega, fun j hj => by omega⟩
theorem zf_AM_t {g : Nat → Int32} {n r : Nat} (h : zf_AM g n r) (hl : g n < g r) : zf_AM g (n + 1) n := by
  obtain ⟨h1, h2, h3⟩ := h
  rw [zf_ilt] at hl
  refine ⟨by omega, fun j hj => ?_, fun j hj => ?_⟩
  · rcases Nat.lt_or_ge j n with q | q
    · have := h2 j q
      rw [zf_ilt] at this ⊢; omega
    · have : j = n := by omega
      subst this
      rw [zf_ilt]; omega
  · have := h2 j hj
    rw [zf_ilt] at this ⊢; omega
theorem zf_AM_f {g : Nat → Int32} {n r : Nat} (h : zf_AM g n r) (hl : ¬ g n < g r) : zf_AM g (n + 1) r := by
  obtain ⟨h1, h2, h3⟩ := h
  refine ⟨by omega, fun j hj => ?_, h3⟩
  rcases Nat.lt_or_ge j n with q | q
  · exact h2 j q
  · have : j = n := by omega
    subst this
    exact hl
/-- r is the first place below n at which g is greatest -/
def zf_AX (g : Nat → Int32) (n r : Nat) : Prop := r < n ∧ (∀ j, j < n → ¬ g r < g j) ∧ ∀ j, j < r → g j < g r
theorem zf_AX_1 {g : Nat → Int32} : zf_AX g 1 0 := ⟨by omega, fun j hj => by
  have : j = 0 := by omega
  subst this
  rw [zf_ilt]; omega, fun j hj => by omega⟩
theorem zf_AX_t {g : Nat → Int32} {n r : Nat} (h : zf_AX g n r) (hl : g r < g n) : zf_AX g (n + 1) n := by
  obtain ⟨h1, h2, h3⟩ := h
  rw [zf_ilt] at hl
  refine ⟨by omega, fun j hj => ?_, fun j hj => ?_⟩
  · rcases Nat.lt_or_ge j n with q | q
    · have := h2 j q
      rw [zf_ilt] at this ⊢; omega
    · have : j = n := by omega
      subst this
      rw [zf_ilt]; omega
  · have := h2 j hj
    rw [zf_ilt] at this ⊢; omega
theorem zf_AX_f {g : Nat → Int32} {n r : Nat} (h : zf_AX g n r) (hl : ¬ g r < g n) : zf_AX g (n + 1) r := by
  obtain ⟨h1, h2, h3⟩ := h
  refine ⟨by omega, fun j hj => ?_, h3⟩
  rcases Nat.lt_or_ge j n with q | q
  · exact h2 j q
  · have : j = n := by omega
    subst this
    exact hl
/-- how many below n -/
def zf_ct (p : Nat → Bool) : Nat → Nat
  | 0 => 0
  | n + 1 => zf_ct p n + if p n = true then 1 else 0
theorem zf_ct_le (p : Nat → Bool) : ∀ n, zf_ct p n ≤ n
  | 0 => Nat.le_refl _
  | n + 1 => by
    have := zf_ct_le p n
    unfold zf_ct
    split <;> omega
theorem zf_ct_z {p : Nat → Bool} {a : Nat} : ∀ b, a ≤ b → (∀ j, a ≤ j → j < b → p j = false) → zf_ct p b = zf_ct p a
  | 0, h, _ => by
    have : a = 0 := by omega
    rw [this]
  | b + 1, h, hz => by
    rcases Nat.lt_or_ge b a with q | q
    · have : a = b + 1 := by omega
      rw [this]
    · have e := zf_ct_z b q (fun j h1 h2 => hz j h1 (by omega))
      have f := hz b q (by omega)
      show zf_ct p b + (if p b = true then 1 else 0) = zf_ct p a
      rw [f, e]
      simp
theorem zf_ct_c {p q : Nat → Bool} : ∀ n, (∀ j, j < n → p j = q j) → zf_ct p n = zf_ct q n
  | 0, _ => rfl
  | n + 1, h => by
    unfold zf_ct
    rw [zf_ct_c n (fun j hj => h j (by omega)), h n (by omega)]
/-- a block of rows, laid close and laid apart -/
theorem zf_ct_sh {p q : Nat → Bool} {a b : Nat} : ∀ w, (∀ k, k < w → p (a + k) = q (b + k)) → zf_ct p a = zf_ct q b → zf_ct p (a + w) = zf_ct q (b + w)
  | 0, _, e => e
  | w + 1, h, e => by
    have i := zf_ct_sh w (fun k hk => h k (by omega)) e
    show zf_ct p (a + w) + (if p (a + w) = true then 1 else 0) = zf_ct q (b + w) + (if q (b + w) = true then 1 else 0)
    rw [i, h w (by omega)]
theorem zf_ct_lay {p q : Nat → Bool} {S W N : Nat} (hW : W ≤ 8) (h8 : 8 * S ≤ N) (hp : ∀ j, S * W ≤ j → j < N → p j = false) (hq : ∀ j, 8 * S ≤ j → j < N → q j = false)
    (hg : ∀ s k, s < S → W ≤ k → k < 8 → q (8 * s + k) = false) (he : ∀ s k, s < S → k < W → p (s * W + k) = q (8 * s + k)) : zf_ct p N = zf_ct q N := by
  have key : ∀ s, s ≤ S → zf_ct p (s * W) = zf_ct q (8 * s) := by
    intro s
    induction s with
    | zero => intro _; simp [zf_ct]
    | succ s ih =>
      intro hs
      have i := zf_ct_sh (p := p) (q := q) (a := s * W) (b := 8 * s) W (fun k hk => he s k (by omega) hk) (ih (by omega))
      have z : zf_ct q (8 * s + 8) = zf_ct q (8 * s + W) := zf_ct_z (8 * s + 8) (by omega) (fun j h1 h2 => by
        have := hg s (j - 8 * s) (by omega) (by omega) (by omega)
        rwa [show 8 * s + (j - 8 * s) = j by omega] at this)
      rw [Nat.succ_mul, i, ← z]
      rfl
  have hSW : S * W ≤ N := by
    have : S * W ≤ S * 8 := Nat.mul_le_mul_left _ hW
    omega
  rw [zf_ct_z N hSW hp, zf_ct_z N h8 hq]
  exact key S (Nat.le_refl _)
