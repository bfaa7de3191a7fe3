/-! PURE ROWS 5: steps of the loops -/
theorem zu_ext {f : Nat → Int32} {k : Nat} {v : Int32} (h : ∀ j, j < k → f j = v) : ∀ j, j < k + 1 → upd f k v j = v := by
  intro j hj
  by_cases q : j = k
  · subst q; exact pk_us
  · rw [pk_un q]; exact h j (by omega)
theorem zu_nle {x y : Int32} (h : ¬ y ≤ x) : x < y := by
  rw [zf_ile] at h; rw [zf_ilt]; omega
theorem zu_nlt {x y : Int32} (h : y ≤ x) : ¬ x < y := by
  rw [zf_ile] at h; rw [zf_ilt]; omega
theorem zf_ct_t {p : Nat → Bool} {n : Nat} (h : p n = true) : zf_ct p (n + 1) = zf_ct p n + 1 := by
  show zf_ct p n + (if p n = true then 1 else 0) = _
  rw [h]; rfl
theorem zf_ct_f {p : Nat → Bool} {n : Nat} (h : p n = false) : zf_ct p (n + 1) = zf_ct p n := by
  show zf_ct p n + (if p n = true then 1 else 0) = _
  rw [h]; rfl
theorem zn_half {a : Nat} (h : a < 2 ^ 31) : nI a >>> (nI 1 &&& 31) = nI (a / 2) := zn_shr (k := 1) h (by decide)
theorem zn_bit {t n : Nat} (ht : t < 256) : nI (t / 2 ^ n) &&& nI 1 = nI (t / 2 ^ n % 2) := zn_mask (k := 1) (by have := Nat.div_le_self t (2 ^ n); omega) (by decide)
theorem zt_fu {half fl : Nat} (h0 : 0 < half) (hf : half < 2 ^ fl) : ∃ f, fl = f + 1 ∧ half / 2 < 2 ^ f := by
  cases fl with
  | zero => simp at hf; omega
  | succ f => exact ⟨f, rfl, by rw [Nat.pow_succ] at hf; omega⟩
theorem zt_pt_0 {tb : Nat → Bool} {fl node fr : Nat} : zt_pt tb fl 0 node fr = fr := by cases fl <;> rfl
theorem zt_pa_0 {pl fl node : Nat} {tb : Nat → Bool} : zt_pa pl fl 0 node tb = tb := by cases fl <;> rfl
theorem zt_mt_0 {pl fl node fr : Nat} {tb : Nat → Bool} : zt_mt pl fl 0 node fr tb = tb := by cases fl <;> rfl
theorem zt_pt_s {t fl half node fr : Nat} (h0 : 0 < half) (hf : half < 2 ^ fl) : zt_pt (zt_b t) fl half node fr = zt_pt (zt_b t) (fl - 1) (half / 2) (2 * node + t / 2 ^ node % 2) (fr + t / 2 ^ node % 2 * half) := by
  obtain ⟨f, rfl, -⟩ := zt_fu h0 hf
  rw [Nat.add_sub_cancel]
  conv => lhs; unfold zt_pt
  rw [if_neg (by omega)]
  rcases Nat.mod_two_eq_zero_or_one (t / 2 ^ node) with q | q
  · rw [if_neg (by simp [zt_b, q]), q]; simp
  · rw [if_pos (by simp [zt_b, q]), q]; simp
theorem zt_pt_t {tb : Nat → Bool} {fl half node fr : Nat} (h0 : 0 < half) (hf : half < 2 ^ fl) (hb : tb node = true) : zt_pt tb fl half node fr = zt_pt tb (fl - 1) (half / 2) (2 * node + 1) (fr + half) := by
  obtain ⟨f, rfl, -⟩ := zt_fu h0 hf
  rw [Nat.add_sub_cancel]
  conv => lhs; unfold zt_pt
  rw [if_neg (by omega), if_pos hb]
theorem zt_pt_f {tb : Nat → Bool} {fl half node fr : Nat} (h0 : 0 < half) (hf : half < 2 ^ fl) (hb : tb node = false) : zt_pt tb fl half node fr = zt_pt tb (fl - 1) (half / 2) (2 * node) fr := by
  obtain ⟨f, rfl, -⟩ := zt_fu h0 hf
  rw [Nat.add_sub_cancel]
  conv => lhs; unfold zt_pt
  rw [if_neg (by omega), if_neg (by rw [hb]; decide)]
theorem zt_pa_t {pl t fl half node : Nat} (h0 : 0 < half) (hf : half < 2 ^ fl) (hb : pl / half % 2 = 1) (ht : t < 256) (hn : node < 8) : zt_pa pl fl half node (zt_b t) = zt_pa pl (fl - 1) (half / 2) (2 * node + 1) (zt_b (zt_c t node)) := by
  obtain ⟨f, rfl, -⟩ := zt_fu h0 hf
  rw [Nat.add_sub_cancel, (zt_cb ht hn).2]
  conv => lhs; unfold zt_pa
  rw [if_neg (by omega), if_pos hb]
theorem zt_pa_f {pl t fl half node : Nat} (h0 : 0 < half) (hf : half < 2 ^ fl) (hb : ¬ pl / half % 2 = 1) (ht : t < 256) (hn : node < 8) : zt_pa pl fl half node (zt_b t) = zt_pa pl (fl - 1) (half / 2) (2 * node) (zt_b (zt_s t node)) := by
  obtain ⟨f, rfl, -⟩ := zt_fu h0 hf
  rw [Nat.add_sub_cancel, (zt_sb ht hn).2]
  conv => lhs; unfold zt_pa
  rw [if_neg (by omega), if_neg hb]
theorem zt_mt_t {pl fl half node fr : Nat} {tb : Nat → Bool} (h0 : 0 < half) (hf : half < 2 ^ fl) (hb : fr + half ≤ pl) : zt_mt pl fl half node fr tb = zt_mt pl (fl - 1) (half / 2) (2 * node + 1) (fr + half) (fun j => if j = node then false else tb j) := by
  obtain ⟨f, rfl, -⟩ := zt_fu h0 hf
  rw [Nat.add_sub_cancel]
  conv => lhs; unfold zt_mt
  rw [if_neg (by omega), if_pos hb]
theorem zt_mt_f {pl fl half node fr : Nat} {tb : Nat → Bool} (h0 : 0 < half) (hf : half < 2 ^ fl) (hb : ¬ fr + half ≤ pl) : zt_mt pl fl half node fr tb = zt_mt pl (fl - 1) (half / 2) (2 * node) fr (fun j => if j = node then true else tb j) := by
  obtain ⟨f, rfl, -⟩ := zt_fu h0 hf
  rw [Nat.add_sub_cancel]
  conv => lhs; unfold zt_mt
  rw [if_neg (by omega), if_neg hb]
theorem zt_hf {half fl : Nat} (h0 : 0 < half) (hf : half < 2 ^ fl) : half / 2 < 2 ^ (fl - 1) := by
  obtain ⟨f, rfl, h⟩ := zt_fu h0 hf
  rw [Nat.add_sub_cancel]; exact h
/-- half and node of a tree of at most 8 places -/
def zt_ok (half node : Nat) : Prop := half = 0 ∨ (half = 1 ∧ node ≤ 7) ∨ (half = 2 ∧ node ≤ 3) ∨ (half = 3 ∧ node ≤ 1) ∨ (half = 4 ∧ node ≤ 1)
theorem zt_ok_n {half node b : Nat} (h : zt_ok half node) (h0 : 0 < half) (hb : b ≤ 1) : zt_ok (half / 2) (2 * node + b) := by
  unfold zt_ok at h ⊢
  omega
theorem zt_ok_8 {half node : Nat} (h : zt_ok half node) (h0 : 0 < half) : node < 8 ∧ half ≤ 4 := by
  unfold zt_ok at h
  omega
theorem zt_ok_l {half node : Nat} (h : zt_ok half node) : half ≤ 4 := by
  unfold zt_ok at h
  omega
/-- which block goes, and what is counted -/
def zc_bi (wy kd : Nat) (gb gs gd : Nat → Int32) (tb : Nat → Bool) (pl : Nat) (vi wb vi2 wb2 : Int32) : Prop :=
  pl < wy ∧ ((zf_FP gb wy (-1) (nI pl) ∧ vi2 = vi ∧ wb2 = wb) ∨ (zf_FP gb wy (-1) (-1) ∧ ((kd = 2 ∧ pl = zt_pt tb 4 (wy / 2) 1 0) ∨ (kd ≠ 2 ∧ zf_AM gs wy pl)) ∧ vi2 = vi + 1 ∧ ((gd pl = 0 ∧ wb2 = wb) ∨ (¬ gd pl = 0 ∧ wb2 = wb + 1))))
theorem zf_FP_lt {g : Nat → Int32} {n : Nat} {b : Int32} {r : Int32} (h : zf_FP g n b r) (hr : ¬ r = -1) : ∃ k, k < n ∧ r = nI k := by
  rcases h with ⟨k, h1, h2, -⟩ | ⟨h1, -⟩
  · exact ⟨k, h1, h2⟩
  · exact absurd h1 hr
theorem zn_m1 {k : Nat} (h : k < 2 ^ 31) : ¬ nI k = -1 := by
  intro e
  have h1 := nI_toInt h
  rw [e] at h1
  have h2 : (-1 : Int32).toInt = -1 := by decide
  omega
theorem zu_bit {h : Nat} (hh : h ≤ 1) : nI h = 0 ∨ nI h = 1 := by
  rcases (show h = 0 ∨ h = 1 by omega) with z | z
  · subst z; exact Or.inl rfl
  · subst z; exact Or.inr rfl
theorem zu_ix {a wy : Nat} (ha : a < 16) (hw : wy ≤ 8) : a * wy + wy ≤ 128 := by
  have h1 : (a + 1) * wy ≤ 16 * 8 := Nat.mul_le_mul (by omega) hw
  rw [Nat.add_mul, Nat.one_mul] at h1
  exact h1
theorem zu_set {x sb : Nat} (h : sb ≤ 4) : x % 2 ^ sb < 16 := by
  have h1 : 2 ^ sb ≤ 2 ^ 4 := Nat.pow_le_pow_right (by decide) h
  have h2 := Nat.mod_lt x (show 0 < 2 ^ sb from Nat.two_pow_pos sb)
  omega
def zq_mk (a b c d e : Nat) : Nat → Nat := fun k => match k with
  | 0 => a
  | 1 => b
  | 2 => c
  | 3 => d
  | _ => e
