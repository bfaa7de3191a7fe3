/-! PURE ROWS 12: what a cache is, apart from where it lies -/
abbrev zK : Type := (Nat × Nat × Nat × Nat) × (Int32 × Int32 × Int32 × Int32) × (Nat → Nat → Int32) × (Nat → Nat → Int32) × (Nat → Nat → Int32) × (Nat → Nat → Bool)
abbrev zK.sb (K : zK) : Nat := K.1.1
abbrev zK.wy (K : zK) : Nat := K.1.2.1
abbrev zK.kd (K : zK) : Nat := K.1.2.2.1
abbrev zK.bb (K : zK) : Nat := K.1.2.2.2
abbrev zK.hi (K : zK) : Int32 := K.2.1.1
abbrev zK.mi (K : zK) : Int32 := K.2.1.2.1
abbrev zK.vi (K : zK) : Int32 := K.2.1.2.2.1
abbrev zK.wb (K : zK) : Int32 := K.2.1.2.2.2
abbrev zK.bl (K : zK) : Nat → Nat → Int32 := K.2.2.1
abbrev zK.di (K : zK) : Nat → Nat → Int32 := K.2.2.2.1
abbrev zK.st (K : zK) : Nat → Nat → Int32 := K.2.2.2.2.1
abbrev zK.tr (K : zK) : Nat → Nat → Bool := K.2.2.2.2.2
def zu_2 (f : Nat → Nat → Int32) (a k : Nat) (v : Int32) : Nat → Nat → Int32 := fun x y => if x = a ∧ y = k then v else f x y
theorem zu_2s {f : Nat → Nat → Int32} {a k : Nat} {v : Int32} : zu_2 f a k v a k = v := if_pos ⟨rfl, rfl⟩
theorem zu_2n {f : Nat → Nat → Int32} {a k x y : Nat} {v : Int32} (h : ¬ (x = a ∧ y = k)) : zu_2 f a k v x y = f x y := if_neg h
/-- a cache behind an access of the place pl of the set a -/
def zK_up (K : zK) (a pl h : Nat) (b wr num vi wb : Int32) : zK :=
  (K.1, (if h = 1 then K.hi + 1 else K.hi, if h = 1 then K.mi else K.mi + 1, vi, wb), zu_2 K.bl a pl b, zu_2 K.di a pl (if wr = 0 then (if h = 1 then K.di a pl else 0) else 1), zu_2 K.st a pl (if h = 1 ∧ K.kd = 1 then K.st a pl else num), fun x => if x = a then zt_pa pl 4 (K.wy / 2) 1 (K.tr a) else K.tr x)
def zK_see (K : zK) (ad : Nat) (wr num : Int32) (h : Nat) (K2 : zK) : Prop :=
  ∃ (b a pl : Nat) (vi wb : Int32), ad / 2 ^ K.bb = b ∧ b % 2 ^ K.sb = a ∧ pl < K.wy ∧ K2 = zK_up K a pl h (nI b) wr num vi wb ∧
    ((h = 1 ∧ zf_FP (K.bl a) K.wy (nI b) (nI pl) ∧ vi = K.vi ∧ wb = K.wb) ∨ (h = 0 ∧ zf_FP (K.bl a) K.wy (nI b) (-1) ∧ zc_bi K.wy K.kd (K.bl a) (K.st a) (K.di a) (K.tr a) pl K.vi K.wb vi wb))
theorem zf_FP_0 {g : Nat → Int32} {n : Nat} {b : Int32} (hn : n < 2 ^ 31) (h : zf_FP g n b (-1)) : ∀ j, j < n → g j ≠ b := by
  rcases h with ⟨k, h1, h2, -⟩ | ⟨-, h2⟩
  · exact absurd h2.symm (zn_m1 (by omega))
  · exact h2
theorem zf_FP_1 {g : Nat → Int32} {n k : Nat} {b : Int32} (hn : n < 2 ^ 31) (hk : k < n) (h : zf_FP g n b (nI k)) : g k = b := by
  rcases h with ⟨k', h1, h2, h3, -⟩ | ⟨h1, -⟩
  · rw [(nI_eq (by omega) (by omega)).mp h2]; exact h3
  · exact absurd h1 (zn_m1 (by omega))
theorem zc_bi_u {wy kd : Nat} {gb gs gd : Nat → Int32} {tb : Nat → Bool} {p1 p2 : Nat} {vi wb v1 w1 v2 w2 : Int32} (hw : wy < 2 ^ 31) (h1 : zc_bi wy kd gb gs gd tb p1 vi wb v1 w1) (h2 : zc_bi wy kd gb gs gd tb p2 vi wb v2 w2) : p1 = p2 ∧ v1 = v2 ∧ w1 = w2 := by
  obtain ⟨a1, a2⟩ := h1
  obtain ⟨b1, b2⟩ := h2
  rcases a2 with ⟨a2, a3, a4⟩ | ⟨a2, a3, a4, a5⟩ <;> rcases b2 with ⟨b2, b3, b4⟩ | ⟨b2, b3, b4, b5⟩
  · exact ⟨(nI_eq (by omega) (by omega)).mp (zf_FP_u a2 b2), by rw [a3, b3], by rw [a4, b4]⟩
  · exact absurd (zf_FP_u a2 b2) (zn_m1 (by omega))
  · exact absurd (zf_FP_u b2 a2) (zn_m1 (by omega))
  · have e : p1 = p2 := by
      rcases a3 with ⟨z1, z2⟩ | ⟨z1, z2⟩ <;> rcases b3 with ⟨y1, y2⟩ | ⟨y1, y2⟩
      · rw [z2, y2]
      · exact absurd z1 y1
      · exact absurd y1 z1
      · exact zf_AM_u z2 y2
    subst e
    refine ⟨rfl, by rw [a4, b4], ?_⟩
    rcases a5 with ⟨z1, z2⟩ | ⟨z1, z2⟩ <;> rcases b5 with ⟨y1, y2⟩ | ⟨y1, y2⟩
    · rw [z2, y2]
    · exact absurd z1 y1
    · exact absurd y1 z1
    · rw [z2, y2]
theorem zK_see_u {K : zK} {ad h1 h2 : Nat} {wr num : Int32} {K1 K2 : zK} (hw : K.wy ≤ 8) (s1 : zK_see K ad wr num h1 K1) (s2 : zK_see K ad wr num h2 K2) : h1 = h2 ∧ K1 = K2 := by
  obtain ⟨b, a, p1, v1, w1, rfl, rfl, hp1, rfl, c1⟩ := s1
  obtain ⟨b2, a2, p2, v2, w2, rfl, rfl, hp2, rfl, c2⟩ := s2
  rcases c1 with ⟨rfl, f1, rfl, rfl⟩ | ⟨rfl, f1, g1⟩ <;> rcases c2 with ⟨rfl, f2, rfl, rfl⟩ | ⟨rfl, f2, g2⟩
  · rw [(nI_eq (by omega) (by omega)).mp (zf_FP_u f1 f2)]; exact ⟨rfl, rfl⟩
  · exact absurd (zf_FP_u f1 f2) (zn_m1 (by omega))
  · exact absurd (zf_FP_u f2 f1) (zn_m1 (by omega))
  · obtain ⟨e1, e2, e3⟩ := zc_bi_u (by omega) g1 g2
    rw [e1, e2, e3]; exact ⟨rfl, rfl⟩
theorem zc_bi_c {wy kd : Nat} {gb gs gd gb' gs' gd' : Nat → Int32} {tb tb' : Nat → Bool} {pl : Nat} {vi wb v1 w1 : Int32} (hw : wy < 2 ^ 31) (e1 : ∀ k, k < wy → gb' k = gb k) (e2 : ∀ k, k < wy → gd' k = gd k) (e3 : ∀ k, k < wy → gb k ≠ -1 → kd ≠ 2 → gs' k = gs k)
    (e4 : kd = 2 → (wy = 1 ∨ wy = 2 ∨ wy = 4 ∨ wy = 8) ∧ ∀ j, j < 8 → tb' j = tb j) (h : zc_bi wy kd gb gs gd tb pl vi wb v1 w1) : zc_bi wy kd gb' gs' gd' tb' pl vi wb v1 w1 := by
  obtain ⟨a1, a2⟩ := h
  refine ⟨a1, ?_⟩
  rcases a2 with ⟨a2, a3, a4⟩ | ⟨a2, a3, a4, a5⟩
  · exact Or.inl ⟨zf_FP_c e1 a2, a3, a4⟩
  · refine Or.inr ⟨zf_FP_c e1 a2, ?_, a4, ?_⟩
    · rcases a3 with ⟨z1, z2⟩ | ⟨z1, z2⟩
      · exact Or.inl ⟨z1, by rw [z2]; exact zt_pt_c (fun j _ hj => ((e4 z1).2 j hj).symm) (e4 z1).1⟩
      · exact Or.inr ⟨z1, zf_AM_c (fun j hj => e3 j hj (zf_FP_0 hw a2 j hj) z1) z2⟩
    · rw [e2 pl a1]; exact a5
def zK_ok (K : zK) : Prop := K.sb ≤ 4 ∧ (1 ≤ K.wy ∧ K.wy ≤ 8) ∧ K.kd ≤ 2 ∧ K.bb ≤ 6 ∧ (K.kd = 2 → K.wy = 1 ∨ K.wy = 2 ∨ K.wy = 4 ∨ K.wy = 8) ∧
  ∀ a k, a < 2 ^ K.sb → k < K.wy → (K.bl a k = -1 ∨ ∃ x, x < 4096 ∧ K.bl a k = nI x) ∧ (K.di a k = 0 ∨ K.di a k = 1) ∧ (K.bl a k = -1 → K.di a k = 0)
theorem zK_see_ok {K K2 : zK} {ad h : Nat} {wr num : Int32} (had : ad < 4096) (hok : zK_ok K) (hs : zK_see K ad wr num h K2) : zK_ok K2 := by
  obtain ⟨b, a, pl, vi, wb, hb, ha, hp, rfl, c⟩ := hs
  obtain ⟨o1, o2, o3, o4, o5, o6⟩ := hok
  have hb2 : b < 4096 := by rw [← hb]; exact Nat.lt_of_le_of_lt (Nat.div_le_self _ _) had
  have ha2 : a < 2 ^ K.sb := by rw [← ha]; exact Nat.mod_lt _ (Nat.two_pow_pos _)
  refine ⟨o1, o2, o3, o4, o5, fun x k hx hk => ?_⟩
  by_cases q : x = a ∧ k = pl
  · obtain ⟨rfl, rfl⟩ := q
    show (zu_2 K.bl x k (nI b) x k = -1 ∨ ∃ y, y < 4096 ∧ zu_2 K.bl x k (nI b) x k = nI y) ∧ (zu_2 K.di x k _ x k = 0 ∨ zu_2 K.di x k _ x k = 1) ∧ (zu_2 K.bl x k (nI b) x k = -1 → zu_2 K.di x k _ x k = 0)
    rw [zu_2s, zu_2s]
    refine ⟨Or.inr ⟨b, hb2, rfl⟩, ?_, fun e => absurd e (zn_m1 (by omega))⟩
    split
    · split
      · exact (o6 x k ha2 hp).2.1
      · exact Or.inl rfl
    · exact Or.inr rfl
  · show (zu_2 K.bl a pl (nI b) x k = -1 ∨ ∃ y, y < 4096 ∧ zu_2 K.bl a pl (nI b) x k = nI y) ∧ (zu_2 K.di a pl _ x k = 0 ∨ zu_2 K.di a pl _ x k = 1) ∧ (zu_2 K.bl a pl (nI b) x k = -1 → zu_2 K.di a pl _ x k = 0)
    rw [zu_2n q, zu_2n q]
    exact o6 x k hx hk
/-- the reference's rows: G i is the row in the cell i -/
def zG (f1 f2 f3 f4 f5 f6 f7 f8 f9 f10 f11 f12 f13 f14 f15 f16 f17 f18 : Nat → Int32) : Nat → Nat → Int32 := fun i => match i with
  | 1 => f1
  | 2 => f2
  | 3 => f3
  | 4 => f4
  | 5 => f5
  | 6 => f6
  | 7 => f7
  | 8 => f8
  | 9 => f9
  | 10 => f10
  | 11 => f11
  | 12 => f12
  | 13 => f13
  | 14 => f14
  | 15 => f15
  | 16 => f16
  | 17 => f17
  | _ => f18
def zv_m (G : Nat → Nat → Int32) (c : Nat) (K : zK) : Prop :=
  (G 3 c = nI K.sb ∧ G 4 c = nI K.wy ∧ G 5 c = nI K.kd ∧ G 6 c = nI K.bb) ∧ (G 7 c = K.hi ∧ G 8 c = K.mi ∧ G 9 c = K.vi ∧ G 10 c = K.wb) ∧
  (∀ a k, a < 2 ^ K.sb → k < K.wy → G 11 (128 * c + 8 * a + k) = K.bl a k ∧ G 12 (128 * c + 8 * a + k) = K.di a k ∧ (K.bl a k ≠ -1 → K.kd ≠ 2 → zm_gs K.kd (128 * c + 8 * a) (G 13) (G 14) k = K.st a k)) ∧
  (∀ a k, a < 16 → k < 8 → ¬ (a < 2 ^ K.sb ∧ k < K.wy) → G 11 (128 * c + 8 * a + k) = -1 ∧ G 12 (128 * c + 8 * a + k) = 0) ∧
  (K.kd = 2 → ∀ a, a < 2 ^ K.sb → ∀ j, j < 8 → zm_tb (G 15) (128 * c + 8 * a) j = K.tr a j)
theorem zK_16 {sb a : Nat} (h : sb ≤ 4) (ha : a < 2 ^ sb) : a < 16 := by
  have h1 : 2 ^ sb ≤ 2 ^ 4 := Nat.pow_le_pow_right (by decide) h
  omega
theorem zv_m_fr {G G2 : Nat → Nat → Int32} {c : Nat} {K : zK} (hok : zK_ok K) (h1 : ∀ i, 3 ≤ i → i ≤ 10 → G2 i c = G i c) (h2 : ∀ i, 11 ≤ i → i ≤ 15 → ∀ j, 128 * c ≤ j → j < 128 * c + 128 → G2 i j = G i j) (hv : zv_m G c K) : zv_m G2 c K := by
  obtain ⟨⟨a1, a2, a3, a4⟩, ⟨b1, b2, b3, b4⟩, c1, c2, c3⟩ := hv
  have hsb := hok.1
  have hwy := hok.2.1
  refine ⟨⟨by rw [h1 3 (by omega) (by omega), a1], by rw [h1 4 (by omega) (by omega), a2], by rw [h1 5 (by omega) (by omega), a3], by rw [h1 6 (by omega) (by omega), a4]⟩, ⟨by rw [h1 7 (by omega) (by omega), b1], by rw [h1 8 (by omega) (by omega), b2], by rw [h1 9 (by omega) (by omega), b3], by rw [h1 10 (by omega) (by omega), b4]⟩, fun a k ha hk => ?_, fun a k ha hk hn => ?_, fun hkd a ha j hj => ?_⟩
  · have ha16 := zK_16 hsb ha
    obtain ⟨d1, d2, d3⟩ := c1 a k ha hk
    refine ⟨by rw [h2 11 (by omega) (by omega) _ (by omega) (by omega), d1], by rw [h2 12 (by omega) (by omega) _ (by omega) (by omega), d2], fun z1 z2 => ?_⟩
    rw [← d3 z1 z2]
    show (if K.kd = 0 then _ else _) = (if K.kd = 0 then _ else _)
    rw [h2 13 (by omega) (by omega) _ (by omega) (by omega), h2 14 (by omega) (by omega) _ (by omega) (by omega)]
  · obtain ⟨d1, d2⟩ := c2 a k ha hk hn
    exact ⟨by rw [h2 11 (by omega) (by omega) _ (by omega) (by omega), d1], by rw [h2 12 (by omega) (by omega) _ (by omega) (by omega), d2]⟩
  · have ha16 := zK_16 hsb ha
    rw [← c3 hkd a ha j hj]
    show decide (G2 15 (128 * c + 8 * a + j) ≠ 0) = decide (G 15 (128 * c + 8 * a + j) ≠ 0)
    rw [h2 15 (by omega) (by omega) _ (by omega) (by omega)]
theorem zv_m_see {G G2 : Nat → Nat → Int32} {K : zK} {ca ad b a ao pl h n : Nat} {wr : Int32} (hv : zv_m G ca K) (hok : zK_ok K) (had : ad < 4096) (hb1 : ad / 2 ^ K.bb = b) (ha1 : b % 2 ^ K.sb = a) (ha2 : 128 * ca + 8 * a = ao)
    (e3 : G2 3 = G 3) (e4 : G2 4 = G 4) (e5 : G2 5 = G 5) (e6 : G2 6 = G 6) (el : G2 13 = upd (G 13) (ao + pl) (nI n)) (f1 : pl < K.wy)
    (f2 : (h = 1 ∧ zf_FP (fun k => G 11 (ao + k)) K.wy (nI b) (nI pl) ∧ G2 7 = upd (G 7) ca (G 7 ca + 1) ∧ G2 8 = G 8 ∧ G2 9 = G 9 ∧ G2 10 = G 10 ∧ G2 11 = G 11 ∧ G2 14 = G 14) ∨
      (h = 0 ∧ zf_FP (fun k => G 11 (ao + k)) K.wy (nI b) (-1) ∧ zc_bi K.wy K.kd (fun k => G 11 (ao + k)) (zm_gs K.kd ao (G 13) (G 14)) (fun k => G 12 (ao + k)) (zm_tb (G 15) ao) pl (G 9 ca) (G 10 ca) (G2 9 ca) (G2 10 ca) ∧ (∀ j, j ≠ ca → G2 9 j = G 9 j ∧ G2 10 j = G 10 j) ∧ G2 7 = G 7 ∧ G2 8 = upd (G 8) ca (G 8 ca + 1) ∧ G2 11 = upd (G 11) (ao + pl) (nI b) ∧ G2 14 = upd (G 14) (ao + pl) (nI n)))
    (f3 : (∀ j, j ≠ ao + pl → G2 12 j = G 12 j) ∧ G2 12 (ao + pl) = if wr = 0 then (if h = 1 then G 12 (ao + pl) else 0) else 1)
    (f6 : zm_tb (G2 15) ao = zt_mt pl 4 (K.wy / 2) 1 0 (zm_tb (G 15) ao)) (f7 : ∀ j, (j < ao ∨ ao + 8 ≤ j) → G2 15 j = G 15 j) :
    ∃ K2, zK_see K ad wr (nI n) h K2 ∧ zv_m G2 ca K2 := by
  obtain ⟨⟨a1, a2, a3, a4⟩, ⟨b1, b2, b3, b4⟩, c1, c2, c3⟩ := hv
  have hsb := hok.1
  have hwy := hok.2.1
  have hk2 := hok.2.2.2.2.1
  have hb2 : b < 4096 := by rw [← hb1]; exact Nat.lt_of_le_of_lt (Nat.div_le_self _ _) had
  have ha : a < 2 ^ K.sb := by rw [← ha1]; exact Nat.mod_lt _ (Nat.two_pow_pos _)
  have ha16 := zK_16 hsb ha
  have g11 : ∀ k, k < K.wy → K.bl a k = G 11 (ao + k) := fun k hk => by rw [← ha2]; exact (c1 a k ha hk).1.symm
  have g12 : ∀ k, k < K.wy → K.di a k = G 12 (ao + k) := fun k hk => by rw [← ha2]; exact (c1 a k ha hk).2.1.symm
  refine ⟨zK_up K a pl h (nI b) wr (nI n) (G2 9 ca) (G2 10 ca), ⟨b, a, pl, _, _, hb1, ha1, f1, rfl, ?_⟩, ?_⟩
  · rcases f2 with ⟨z0, z1, z2, z3, z4, z5, z6, z7⟩ | ⟨z0, z1, z2, z3⟩
    · exact Or.inl ⟨z0, zf_FP_c g11 z1, by rw [z4, b3], by rw [z5, b4]⟩
    · refine Or.inr ⟨z0, zf_FP_c g11 z1, ?_⟩
      rw [← b3, ← b4]
      refine zc_bi_c (by omega) g11 g12 (fun k hk y1 y2 => ?_) (fun y => ⟨hk2 y, fun j hj => ?_⟩) z2
      · rw [← ha2]
        exact ((c1 a k ha hk).2.2 (by rw [g11 k hk]; exact y1) y2).symm
      · rw [← ha2]; exact (c3 y a ha j hj).symm
  · have hne : h = 1 → K.bl a pl ≠ -1 := by
      intro hh e
      rcases f2 with ⟨z0, z1, -⟩ | ⟨z0, -⟩
      · have := zf_FP_1 (by omega) f1 (zf_FP_c g11 z1)
        rw [e] at this
        exact absurd this.symm (zn_m1 (by omega))
      · omega
    have hadr : ∀ x k, k < 8 → ¬ (x = a ∧ k = pl) → 128 * ca + 8 * x + k ≠ ao + pl := by
      intro x k hk q e
      exact q (by omega)
    have hbl : ∀ j, j ≠ ao + pl → G2 11 j = G 11 j := by
      intro j hj
      rcases f2 with ⟨z0, z1, z2, z3, z4, z5, z6, z7⟩ | ⟨z0, z1, z2, z3, z4, z5, z6, z7⟩
      · rw [z6]
      · rw [z6, pk_un hj]
    have hbl1 : G2 11 (ao + pl) = nI b := by
      rcases f2 with ⟨z0, z1, z2, z3, z4, z5, z6, z7⟩ | ⟨z0, z1, z2, z3, z4, z5, z6, z7⟩
      · rw [z6]; exact zf_FP_1 (g := fun k => G 11 (ao + k)) (by omega) f1 z1
      · rw [z6, pk_us]
    refine ⟨⟨by rw [e3]; exact a1, by rw [e4]; exact a2, by rw [e5]; exact a3, by rw [e6]; exact a4⟩, ⟨?_, ?_, rfl, rfl⟩, fun x k hx hk => ?_, fun x k hx hk hn => ?_, fun hkd x hx j hj => ?_⟩
    · show G2 7 ca = if h = 1 then K.hi + 1 else K.hi
      rcases f2 with ⟨z0, z1, z2, z3, z4, z5, z6, z7⟩ | ⟨z0, z1, z2, z3, z4, z5, z6, z7⟩
      · rw [z2, pk_us, if_pos z0, b1]
      · rw [z4, if_neg (by omega), b1]
    · show G2 8 ca = if h = 1 then K.mi else K.mi + 1
      rcases f2 with ⟨z0, z1, z2, z3, z4, z5, z6, z7⟩ | ⟨z0, z1, z2, z3, z4, z5, z6, z7⟩
      · rw [z3, if_pos z0, b2]
      · rw [z5, pk_us, if_neg (by omega), b2]
    · have hx : x < 2 ^ K.sb := hx
      have hk : k < K.wy := hk
      obtain ⟨d1, d2, d3⟩ := c1 x k hx hk
      show G2 11 (128 * ca + 8 * x + k) = zu_2 K.bl a pl (nI b) x k ∧ G2 12 (128 * ca + 8 * x + k) = zu_2 K.di a pl _ x k ∧ (zu_2 K.bl a pl (nI b) x k ≠ -1 → K.kd ≠ 2 → zm_gs K.kd (128 * ca + 8 * x) (G2 13) (G2 14) k = zu_2 K.st a pl _ x k)
      by_cases q : x = a ∧ k = pl
      · obtain ⟨rfl, rfl⟩ := q
        rw [zu_2s, zu_2s, zu_2s, ha2]
        refine ⟨hbl1, by rw [f3.2, ← g12 k hk], fun _ y2 => ?_⟩
        show (if K.kd = 0 then G2 13 (ao + k) else G2 14 (ao + k)) = _
        rw [el, pk_us]
        rcases f2 with ⟨z0, z1, z2, z3, z4, z5, z6, z7⟩ | ⟨z0, z1, z2, z3, z4, z5, z6, z7⟩
        · by_cases y3 : K.kd = 0
          · rw [if_pos y3, if_neg (by omega)]
          · have o3 := hok.2.2.1
            rw [if_neg y3, if_pos ⟨z0, by omega⟩, z7]
            have := d3 (hne z0) y2
            rw [ha2, zm_gs1 (by omega)] at this
            exact this
        · rw [if_neg (show ¬ (h = 1 ∧ K.kd = 1) by omega), z7, pk_us]
          split <;> rfl
      · rw [zu_2n q, zu_2n q, zu_2n q]
        have hk8 : k < 8 := by omega
        refine ⟨by rw [hbl _ (hadr x k hk8 q), d1], by rw [f3.1 _ (hadr x k hk8 q), d2], fun y1 y2 => ?_⟩
        rw [← d3 y1 y2]
        show (if K.kd = 0 then G2 13 (128 * ca + 8 * x + k) else G2 14 (128 * ca + 8 * x + k)) = (if K.kd = 0 then G 13 (128 * ca + 8 * x + k) else G 14 (128 * ca + 8 * x + k))
        rw [el, pk_un (hadr x k hk8 q)]
        rcases f2 with ⟨z0, z1, z2, z3, z4, z5, z6, z7⟩ | ⟨z0, z1, z2, z3, z4, z5, z6, z7⟩
        · rw [z7]
        · rw [z7, pk_un (hadr x k hk8 q)]
    · have hq : ¬ (x = a ∧ k = pl) := by
        rintro ⟨rfl, rfl⟩
        exact hn ⟨ha, f1⟩
      obtain ⟨d1, d2⟩ := c2 x k hx hk hn
      exact ⟨by rw [hbl _ (hadr x k hk hq), d1], by rw [f3.1 _ (hadr x k hk hq), d2]⟩
    · have hx : x < 2 ^ K.sb := hx
      have hx16 := zK_16 hsb hx
      show zm_tb (G2 15) (128 * ca + 8 * x) j = (if x = a then zt_pa pl 4 (K.wy / 2) 1 (K.tr a) else K.tr x) j
      by_cases q : x = a
      · subst q
        rw [if_pos rfl, ha2, f6, zt_same (hk2 hkd) f1]
        refine zt_mt_c _ _ _ _ _ _ j ?_
        rw [← ha2]; exact c3 hkd x ha j hj
      · rw [if_neg q, ← c3 hkd x hx j hj]
        show decide (G2 15 (128 * ca + 8 * x + j) ≠ 0) = decide (G 15 (128 * ca + 8 * x + j) ≠ 0)
        rw [f7 _ (by omega)]
