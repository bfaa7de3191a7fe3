/-! PURE ROWS 7: the reference's loops -/
def zm_ob (q : Nat → Nat) (th n lc kp : Nat) : va_E := .inr (3, [.int (nI th), .int (nI n), .ref (q 1), .ref (q 2), .ref (q 3), .ref (q 4), .ref (q 5), .ref (q 6), .ref (q 7), .ref (q 8), .ref (q 9), .ref (q 10), .ref (q 11), .ref (q 12), .ref (q 13), .ref (q 14), .ref (q 15), .int (nI lc), .ref (q 16), .ref (q 17), .int (nI kp), .ref (q 18)])
def zm_in (h : Nat) (v lo hi : Int32) : Prop := (h = 1 ∧ ¬ v < lo ∧ ¬ hi < v) ∨ (h = 0 ∧ (v < lo ∨ hi < v))
theorem zm_inT {h : Nat} {v lo hi : Int32} (hf : zm_in h v lo hi) (h1 : ¬ v < lo) (h2 : ¬ hi < v) : ¬ h = 0 := by
  rcases hf with ⟨z, -⟩ | ⟨-, z | z⟩
  · omega
  · exact absurd z h1
  · exact absurd z h2
theorem zm_inN {h : Nat} {v : Int32} {lo hi : Nat} (hlo : lo < 2 ^ 31) (hhi : hi < 2 ^ 31) (hf : zm_in h v (nI lo) (nI hi)) (h0 : 0 < h) : ∃ k, lo ≤ k ∧ k ≤ hi ∧ v = nI k := by
  rcases hf with ⟨-, z1, z2⟩ | ⟨z, -⟩
  · have h3 : ¬ v < 0 := by
      rw [zf_ilt] at z1 ⊢
      rw [nI_toInt hlo] at z1
      have : (0 : Int32).toInt = 0 := by decide
      omega
    obtain ⟨k, hk, rfl⟩ := nI_of h3
    refine ⟨k, ?_, ?_, rfl⟩
    · rcases Nat.lt_or_ge k lo with q | q
      · exact absurd ((nI_ltI hk hlo).mpr q) z1
      · exact q
    · rcases Nat.lt_or_ge hi k with q | q
      · exact absurd ((nI_ltI hhi hk).mpr q) z2
      · exact q
  · omega
theorem zm_in1 {h : Nat} {lo hi k : Nat} (hlo : lo < 2 ^ 31) (hhi : hi < 2 ^ 31) (hk : k < 2 ^ 31) (hf : zm_in h (nI k) (nI lo) (nI hi)) : (0 < h ↔ lo ≤ k ∧ k ≤ hi) ∧ h ≤ 1 := by
  rcases hf with ⟨z, z1, z2⟩ | ⟨z, z1⟩
  · rw [nI_ltI hk hlo] at z1
    rw [nI_ltI hhi hk] at z2
    omega
  · rw [nI_ltI hk hlo, nI_ltI hhi hk] at z1
    omega
theorem zm_in0 {h : Nat} {v : Int32} {lo hi : Nat} (hlo : lo < 2 ^ 31) (hhi : hi < 2 ^ 31) (hf : zm_in h v (nI lo) (nI hi)) (h0 : h = 0) : ∀ k, lo ≤ k → k ≤ hi → v ≠ nI k := by
  intro k a b e
  rcases hf with ⟨z, -⟩ | ⟨-, z⟩
  · omega
  · rw [e, nI_ltI (by omega) hlo, nI_ltI hhi (by omega)] at z
    omega
/-- a block of places is filled -/
def zu_Bk (f f1 : Nat → Int32) (o k : Nat) (v : Int32) : Prop := (∀ j, j < k → f1 (o + j) = v) ∧ ∀ j, (j < o ∨ o + k ≤ j) → f1 j = f j
theorem zu_B0 {f : Nat → Int32} {o : Nat} {v : Int32} : zu_Bk f f o 0 v := ⟨fun j h => by omega, fun _ _ => rfl⟩
theorem zu_Bs {f f1 : Nat → Int32} {o k : Nat} {v : Int32} (h : zu_Bk f f1 o k v) : zu_Bk f (upd f1 (o + k) v) o (k + 1) v := by
  refine ⟨fun j hj => ?_, fun j hj => ?_⟩
  · by_cases q : j = k
    · rw [q]; exact pk_us
    · rw [pk_un (by omega)]; exact h.1 j (by omega)
  · rw [pk_un (by omega)]; exact h.2 j (by omega)
/-- the first place from k on -/
def zf_FR (g : Nat → Int32) (k n : Nat) (b r : Int32) : Prop :=
  (∃ m, k ≤ m ∧ m < n ∧ r = nI m ∧ g m = b ∧ ∀ j, k ≤ j → j < m → g j ≠ b) ∨ (r = -1 ∧ ∀ j, k ≤ j → j < n → g j ≠ b)
theorem zf_FR_0 {g : Nat → Int32} {n : Nat} {b : Int32} : zf_FR g n n b (-1) := Or.inr ⟨rfl, fun j a c => by omega⟩
theorem zf_FR_t {g : Nat → Int32} {k n : Nat} {b : Int32} (hk : 0 < k) (hn : k ≤ n) (h : g (k - 1) = b) : zf_FR g (k - 1) n b (nI (k - 1)) := Or.inl ⟨k - 1, Nat.le_refl _, by omega, rfl, h, fun j a c => by omega⟩
theorem zf_FR_f {g : Nat → Int32} {k n : Nat} {b r : Int32} (hk : 0 < k) (h : ¬ g (k - 1) = b) (hr : zf_FR g k n b r) : zf_FR g (k - 1) n b r := by
  rcases hr with ⟨m, h1, h2, h3, h4, h5⟩ | ⟨h1, h2⟩
  · refine Or.inl ⟨m, by omega, h2, h3, h4, fun j a c => ?_⟩
    rcases Nat.lt_or_ge j k with z | z
    · rw [show j = k - 1 by omega]; exact h
    · exact h5 j z c
  · refine Or.inr ⟨h1, fun j a c => ?_⟩
    rcases Nat.lt_or_ge j k with z | z
    · rw [show j = k - 1 by omega]; exact h
    · exact h2 j z c
theorem zf_FR_P {g : Nat → Int32} {n : Nat} {b r : Int32} (h : zf_FR g 0 n b r) : zf_FP g n b r := by
  rcases h with ⟨m, -, h2, h3, h4, h5⟩ | ⟨h1, h2⟩
  · exact Or.inl ⟨m, h2, h3, h4, fun j c => h5 j (by omega) c⟩
  · exact Or.inr ⟨h1, fun j c => h2 j (by omega) c⟩
/-- the picture of a tree in the reference -/
def zm_tb (gp : Nat → Int32) (o : Nat) : Nat → Bool := fun j => decide (gp (o + j) ≠ 0)
theorem zm_tb1 {gp : Nat → Int32} {o n : Nat} : zm_tb (upd gp (o + n) (nI 1)) o = fun j => if j = n then true else zm_tb gp o j := by
  funext j
  by_cases q : j = n
  · rw [if_pos q, q]; simp only [zm_tb, pk_us]; decide
  · rw [if_neg q]; simp only [zm_tb]; rw [pk_un (by omega)]
theorem zm_tb0 {gp : Nat → Int32} {o n : Nat} : zm_tb (upd gp (o + n) (nI 0)) o = fun j => if j = n then false else zm_tb gp o j := by
  funext j
  by_cases q : j = n
  · rw [if_pos q, q]; simp only [zm_tb, pk_us]; decide
  · rw [if_neg q]; simp only [zm_tb]; rw [pk_un (by omega)]
def zm_gs (kd o : Nat) (gl gc : Nat → Int32) : Nat → Int32 := fun j => if kd = 0 then gl (o + j) else gc (o + j)
theorem zm_gs0 {kd o : Nat} {gl gc : Nat → Int32} (h : kd = 0) : zm_gs kd o gl gc = fun j => gl (o + j) := by funext j; simp [zm_gs, h]
theorem zm_gs1 {kd o : Nat} {gl gc : Nat → Int32} (h : 0 < kd) : zm_gs kd o gl gc = fun j => gc (o + j) := by funext j; simp [zm_gs, show kd ≠ 0 by omega]
def zm_cp (gb gd : Nat → Int32) (o dz : Nat) : Nat → Bool := fun j => decide (¬ gb (o + j) < 0 ∧ (dz = 0 ∨ ¬ gd (o + j) = 0))
def zm_rf (o1 o2 o3 t : Nat) : Prop := (0 < o1 ∧ t = 1) ∨ (o1 = 0 ∧ 0 < o2 ∧ t = 2) ∨ (o1 = 0 ∧ o2 = 0 ∧ 0 < o3 ∧ t = 3) ∨ (o1 = 0 ∧ o2 = 0 ∧ o3 = 0 ∧ t = 0)
