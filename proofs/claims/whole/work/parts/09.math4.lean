/-! PURE ROWS 4: the tree of a set -/
def zt_b (t : Nat) : Nat → Bool := fun j => decide (t / 2 ^ j % 2 = 1)
def zt_c (t n : Nat) : Nat := if t / 2 ^ n % 2 = 1 then t - 2 ^ n else t
def zt_s (t n : Nat) : Nat := if t / 2 ^ n % 2 = 1 then t else t + 2 ^ n
theorem zt_clr0 : ∀ t : Fin 256, ∀ n : Fin 8, nI t.val &&& ((nI 1 <<< (nI n.val &&& 31)) ^^^ (-1)) = nI (zt_c t.val n.val) := by decide +kernel
theorem zt_set0 : ∀ t : Fin 256, ∀ n : Fin 8, nI t.val ||| (nI 1 <<< (nI n.val &&& 31)) = nI (zt_s t.val n.val) := by decide +kernel
theorem zt_get0 : ∀ t : Fin 256, ∀ n : Fin 8, (nI t.val >>> (nI n.val &&& 31)) &&& nI 1 = nI (t.val / 2 ^ n.val % 2) := by decide +kernel
theorem zt_cb0 : ∀ t : Fin 256, ∀ n : Fin 8, zt_c t.val n.val < 256 ∧ ∀ j : Fin 8, zt_b (zt_c t.val n.val) j.val = if j.val = n.val then false else zt_b t.val j.val := by decide +kernel
theorem zt_sb0 : ∀ t : Fin 256, ∀ n : Fin 8, zt_s t.val n.val < 256 ∧ ∀ j : Fin 8, zt_b (zt_s t.val n.val) j.val = if j.val = n.val then true else zt_b t.val j.val := by decide +kernel
theorem zt_and0 : ∀ p : Fin 8, ∀ h : Fin 5, (h.val = 1 ∨ h.val = 2 ∨ h.val = 4) → nI p.val &&& nI h.val = nI (if p.val / h.val % 2 = 1 then h.val else 0) := by decide +kernel
theorem zt_clr {t n : Nat} (ht : t < 256) (hn : n < 8) : nI t &&& ((nI 1 <<< (nI n &&& 31)) ^^^ (-1)) = nI (zt_c t n) := zt_clr0 ⟨t, ht⟩ ⟨n, hn⟩
theorem zt_set {t n : Nat} (ht : t < 256) (hn : n < 8) : nI t ||| (nI 1 <<< (nI n &&& 31)) = nI (zt_s t n) := zt_set0 ⟨t, ht⟩ ⟨n, hn⟩
theorem zt_get {t n : Nat} (ht : t < 256) (hn : n < 8) : (nI t >>> (nI n &&& 31)) &&& nI 1 = nI (t / 2 ^ n % 2) := zt_get0 ⟨t, ht⟩ ⟨n, hn⟩
theorem zt_and {p h : Nat} (hp : p < 8) (hh : h = 1 ∨ h = 2 ∨ h = 4) : nI p &&& nI h = nI (if p / h % 2 = 1 then h else 0) := zt_and0 ⟨p, hp⟩ ⟨h, by omega⟩ hh
theorem zt_big {t j : Nat} (ht : t < 256) (hj : 8 ≤ j) : zt_b t j = false := by
  have h1 : 256 ≤ 2 ^ j := Nat.pow_le_pow_right (n := 2) (by decide) hj
  have h2 : t / 2 ^ j = 0 := Nat.div_eq_of_lt (by omega)
  simp [zt_b, h2]
theorem zt_cb {t n : Nat} (ht : t < 256) (hn : n < 8) : zt_c t n < 256 ∧ zt_b (zt_c t n) = fun j => if j = n then false else zt_b t j := by
  obtain ⟨h1, h2⟩ := zt_cb0 ⟨t, ht⟩ ⟨n, hn⟩
  refine ⟨h1, funext fun j => ?_⟩
  rcases Nat.lt_or_ge j 8 with q | q
  · exact h2 ⟨j, q⟩
  · rw [zt_big h1 q, zt_big ht q]; simp
theorem zt_sb {t n : Nat} (ht : t < 256) (hn : n < 8) : zt_s t n < 256 ∧ zt_b (zt_s t n) = fun j => if j = n then true else zt_b t j := by
  obtain ⟨h1, h2⟩ := zt_sb0 ⟨t, ht⟩ ⟨n, hn⟩
  refine ⟨h1, funext fun j => ?_⟩
  rcases Nat.lt_or_ge j 8 with q | q
  · exact h2 ⟨j, q⟩
  · rw [zt_big h1 q, zt_big ht q, if_neg (by omega)]
/-- to which place one is pointed -/
def zt_pt (tb : Nat → Bool) : Nat → Nat → Nat → Nat → Nat
  | 0, _, _, fr => fr
  | f + 1, half, node, fr => if half = 0 then fr else if tb node = true then zt_pt tb f (half / 2) (2 * node + 1) (fr + half) else zt_pt tb f (half / 2) (2 * node) fr
/-- how the tree points behind an access of the place pl: by comparing -/
def zt_mt (pl : Nat) : Nat → Nat → Nat → Nat → (Nat → Bool) → Nat → Bool
  | 0, _, _, _, tb => tb
  | f + 1, half, node, fr, tb => if half = 0 then tb else if fr + half ≤ pl then zt_mt pl f (half / 2) (2 * node + 1) (fr + half) (fun j => if j = node then false else tb j) else zt_mt pl f (half / 2) (2 * node) fr (fun j => if j = node then true else tb j)
/-- the same by the place's bits -/
def zt_pa (pl : Nat) : Nat → Nat → Nat → (Nat → Bool) → Nat → Bool
  | 0, _, _, tb => tb
  | f + 1, half, node, tb => if half = 0 then tb else if pl / half % 2 = 1 then zt_pa pl f (half / 2) (2 * node + 1) (fun j => if j = node then false else tb j) else zt_pa pl f (half / 2) (2 * node) (fun j => if j = node then true else tb j)
theorem zt_same {w pl : Nat} (hw : w = 1 ∨ w = 2 ∨ w = 4 ∨ w = 8) (hp : pl < w) (tb : Nat → Bool) : zt_pa pl 4 (w / 2) 1 tb = zt_mt pl 4 (w / 2) 1 0 tb := by
  rcases hw with rfl | rfl | rfl | rfl
  · rfl
  · rcases (show pl = 0 ∨ pl = 1 by omega) with rfl | rfl <;> rfl
  · rcases (show pl = 0 ∨ pl = 1 ∨ pl = 2 ∨ pl = 3 by omega) with rfl | rfl | rfl | rfl <;> rfl
  · rcases (show pl = 0 ∨ pl = 1 ∨ pl = 2 ∨ pl = 3 ∨ pl = 4 ∨ pl = 5 ∨ pl = 6 ∨ pl = 7 by omega) with rfl | rfl | rfl | rfl | rfl | rfl | rfl | rfl <;> rfl
theorem zt_pt_lt {tb : Nat → Bool} {w : Nat} (hw : w = 1 ∨ w = 2 ∨ w = 4 ∨ w = 8) : zt_pt tb 4 (w / 2) 1 0 < w := by
  rcases hw with rfl | rfl | rfl | rfl <;> simp [zt_pt] <;> (repeat' split) <;> omega
/-- the pictures of a tree agree -/
theorem zt_pt_c {tb tb' : Nat → Bool} (h : ∀ j, 1 ≤ j → j < 8 → tb j = tb' j) {w : Nat} (hw : w = 1 ∨ w = 2 ∨ w = 4 ∨ w = 8) : zt_pt tb 4 (w / 2) 1 0 = zt_pt tb' 4 (w / 2) 1 0 := by
  have h1 := h 1 (by omega) (by omega)
  have h2 := h 2 (by omega) (by omega)
  have h3 := h 3 (by omega) (by omega)
  have h4 := h 4 (by omega) (by omega)
  have h5 := h 5 (by omega) (by omega)
  have h6 := h 6 (by omega) (by omega)
  have h7 := h 7 (by omega) (by omega)
  rcases hw with rfl | rfl | rfl | rfl <;> simp [zt_pt, h1, h2, h3, h4, h5, h6, h7]
theorem zt_mt_c {pl : Nat} : ∀ (f half node fr : Nat) (tb tb' : Nat → Bool) (j : Nat), tb j = tb' j → zt_mt pl f half node fr tb j = zt_mt pl f half node fr tb' j
  | 0, _, _, _, _, _, _, h => h
  | f + 1, half, node, fr, tb, tb', j, h => by
    unfold zt_mt
    split
    · exact h
    · split
      · exact zt_mt_c f _ _ _ _ _ j (by show (if j = node then false else tb j) = (if j = node then false else tb' j); rw [h])
      · exact zt_mt_c f _ _ _ _ _ j (by show (if j = node then true else tb j) = (if j = node then true else tb' j); rw [h])
