/-! PURE ROWS 14: making, emptying, counting -/
def zK_mk (sb wy kd bb : Nat) : zK := ((sb, wy, kd, bb), (nI 0, nI 0, nI 0, nI 0), fun _ _ => -1, fun _ _ => 0, fun _ _ => 0, fun _ _ => false)
def zK_p (K : zK) (dz : Nat) : Nat → Bool := fun j => decide (j / 8 < 2 ^ K.sb ∧ j % 8 < K.wy ∧ K.bl (j / 8) (j % 8) ≠ -1 ∧ (dz = 0 ∨ K.di (j / 8) (j % 8) ≠ 0))
def zK_ct (K : zK) (dz : Nat) : Nat := zf_ct (zK_p K dz) 128
def zK_fl (K : zK) : zK := (K.1, (K.hi, K.mi, K.vi, K.wb + nI (zK_ct K 1)), fun _ _ => -1, fun _ _ => 0, fun _ _ => 0, fun _ _ => false)
def zK_ab (K : zK) (k : Nat) : Int32 := if k = 0 then K.hi else if k = 1 then K.mi else if k = 2 then K.vi else if k = 3 then K.wb else if k = 4 then nI (zK_ct K 0) else nI (zK_ct K 1)
def zq_good (x0 x1 x2 x3 x4 : Int32) (c sb wy kd bb : Nat) : Prop := c < 4 ∧ sb ≤ 4 ∧ (1 ≤ wy ∧ wy ≤ 8) ∧ kd ≤ 2 ∧ bb ≤ 6 ∧ (kd = 2 → wy = 1 ∨ wy = 2 ∨ wy = 4 ∨ wy = 8) ∧ x0 = nI c ∧ x1 = nI sb ∧ x2 = nI wy ∧ x3 = nI kd ∧ x4 = nI bb
def zq_make (Ks : Nat → Option zK) (x0 x1 x2 x3 x4 : Int32) (t : Nat) (Ks2 : Nat → Option zK) : Prop :=
  (t = 1 ∧ Ks2 = Ks ∧ ∀ c sb wy kd bb, ¬ zq_good x0 x1 x2 x3 x4 c sb wy kd bb) ∨ (t = 0 ∧ ∃ c sb wy kd bb, zq_good x0 x1 x2 x3 x4 c sb wy kd bb ∧ Ks2 = zo_up Ks c (zK_mk sb wy kd bb))
def zq_flush (Ks : Nat → Option zK) (x r : Int32) (t : Nat) (Ks2 : Nat → Option zK) : Prop :=
  (t = 1 ∧ Ks2 = Ks ∧ ∀ c, c < 4 → x = nI c → Ks c = none) ∨ (t = 0 ∧ ∃ c K, c < 4 ∧ x = nI c ∧ Ks c = some K ∧ r = nI (zK_ct K 1) ∧ Ks2 = zo_up Ks c (zK_fl K))
def zq_place (Ks : Nat → Option zK) (x0 x1 x2 x3 r : Int32) (t : Nat) : Prop :=
  (t = 1 ∧ ∀ c, c < 4 → x0 = nI c → Ks c = none) ∨ (∃ c K, c < 4 ∧ x0 = nI c ∧ Ks c = some K ∧ ((t = 2 ∧ ∀ a k, a < 2 ^ K.sb → k < K.wy → ¬ (x1 = nI a ∧ x2 = nI k)) ∨
    ∃ a k, a < 2 ^ K.sb ∧ k < K.wy ∧ x1 = nI a ∧ x2 = nI k ∧ ((t = 3 ∧ ¬ x3 = nI 0 ∧ ¬ x3 = nI 1) ∨ (t = 0 ∧ x3 = nI 0 ∧ r = K.bl a k) ∨ (t = 0 ∧ x3 = nI 1 ∧ r = K.di a k))))
def zq_about (Ks : Nat → Option zK) (x0 x1 r : Int32) (t : Nat) : Prop :=
  (t = 1 ∧ ∀ c, c < 4 → x0 = nI c → Ks c = none) ∨ (∃ c K, c < 4 ∧ x0 = nI c ∧ Ks c = some K ∧ ((t = 2 ∧ ∀ k, k < 6 → x1 ≠ nI k) ∨ ∃ k, t = 0 ∧ k < 6 ∧ x1 = nI k ∧ r = zK_ab K k))
theorem zK_mk_ok {sb wy kd bb : Nat} (h1 : sb ≤ 4) (h2 : 1 ≤ wy ∧ wy ≤ 8) (h3 : kd ≤ 2) (h4 : bb ≤ 6) (h5 : kd = 2 → wy = 1 ∨ wy = 2 ∨ wy = 4 ∨ wy = 8) : zK_ok (zK_mk sb wy kd bb) :=
  ⟨h1, h2, h3, h4, h5, fun _ _ _ _ => ⟨Or.inl rfl, Or.inl rfl, fun _ => rfl⟩⟩
theorem zK_fl_ok {K : zK} (h : zK_ok K) : zK_ok (zK_fl K) := ⟨h.1, h.2.1, h.2.2.1, h.2.2.2.1, h.2.2.2.2.1, fun _ _ _ _ => ⟨Or.inl rfl, Or.inl rfl, fun _ => rfl⟩⟩
theorem zv_m_ct {G : Nat → Nat → Int32} {K : zK} {c dz : Nat} (hok : zK_ok K) (hv : zv_m G c K) : zf_ct (zm_cp (G 11) (G 12) (128 * c) dz) 128 = zK_ct K dz := by
  refine zf_ct_c 128 (fun j hj => ?_)
  obtain ⟨-, -, c1, c2, -⟩ := hv
  have e : 128 * c + j = 128 * c + 8 * (j / 8) + j % 8 := by omega
  show decide (¬ G 11 (128 * c + j) < 0 ∧ (dz = 0 ∨ ¬ G 12 (128 * c + j) = 0)) = decide (j / 8 < 2 ^ K.sb ∧ j % 8 < K.wy ∧ K.bl (j / 8) (j % 8) ≠ -1 ∧ (dz = 0 ∨ K.di (j / 8) (j % 8) ≠ 0))
  rw [e]
  by_cases q : j / 8 < 2 ^ K.sb ∧ j % 8 < K.wy
  · obtain ⟨d1, d2, -⟩ := c1 (j / 8) (j % 8) q.1 q.2
    rw [d1, d2]
    have hne : (¬ K.bl (j / 8) (j % 8) < 0) ↔ K.bl (j / 8) (j % 8) ≠ -1 := by
      rcases (hok.2.2.2.2.2 (j / 8) (j % 8) q.1 q.2).1 with z | ⟨x, z1, z2⟩
      · rw [z]; decide
      · rw [z2]
        exact ⟨fun _ => zn_m1 (by omega), fun _ => nI_pos (by omega)⟩
    rw [decide_eq_decide, hne]
    exact ⟨fun h => ⟨q.1, q.2, h.1, h.2⟩, fun h => ⟨h.2.2.1, h.2.2.2⟩⟩
  · obtain ⟨d1, d2⟩ := c2 (j / 8) (j % 8) (by omega) (by omega) q
    rw [d1, decide_eq_decide]
    exact ⟨fun h => absurd (show (-1 : Int32) < 0 by decide) h.1, fun h => absurd ⟨h.1, h.2.1⟩ q⟩
theorem zm_is_new {G G2 : Nat → Nat → Int32} {n : Nat} {ad : Nat → Nat} {Ks : Nat → Option zK} {K : zK} {c : Nat} (his : zm_is G n ad Ks) (hc : c < 4) (hok : zK_ok K) (e1 : G2 1 = G 1) (e2 : G2 2 c = 1) (e3 : ∀ i, 2 ≤ i → i ≤ 10 → ∀ j, j ≠ c → G2 i j = G i j)
    (b1 : zu_Bk (G 11) (G2 11) (128 * c) 128 (-1)) (b2 : zu_Bk (G 12) (G2 12) (128 * c) 128 0) (b3 : zu_Bk (G 15) (G2 15) (128 * c) 128 0) (e13 : G2 13 = G 13) (e14 : G2 14 = G 14)
    (k1 : G2 3 c = nI K.sb ∧ G2 4 c = nI K.wy ∧ G2 5 c = nI K.kd ∧ G2 6 c = nI K.bb) (k2 : G2 7 c = K.hi ∧ G2 8 c = K.mi ∧ G2 9 c = K.vi ∧ G2 10 c = K.wb)
    (k3 : ∀ a k, K.bl a k = -1 ∧ K.di a k = 0) (k4 : ∀ a k, K.tr a k = false) : zm_is G2 n ad (zo_up Ks c K) := by
  refine ⟨his.1, fun j hj => by rw [e1]; exact his.2.1 j hj, fun j hj => ?_, fun i hi => ?_⟩
  · by_cases q : j < 128 * c ∨ 128 * c + 128 ≤ j
    · rw [b2.2 j q]; exact his.2.2.1 j hj
    · have := b2.1 (j - 128 * c) (by omega)
      rw [show 128 * c + (j - 128 * c) = j by omega] at this
      exact Or.inl this
  · by_cases q : i = c
    · subst q
      refine Or.inr ⟨e2, K, zo_s, hok, k1, k2, fun a k ha hk => ?_, fun a k ha hk hn => ?_, fun hkd a ha j hj => ?_⟩
      · have ha16 := zK_16 hok.1 ha
        have hw8 := hok.2.1
        have d1 := b1.1 (8 * a + k) (by omega)
        have d2 := b2.1 (8 * a + k) (by omega)
        rw [← Nat.add_assoc] at d1 d2
        exact ⟨by rw [d1, (k3 a k).1], by rw [d2, (k3 a k).2], fun z => absurd (k3 a k).1 z⟩
      · have d1 := b1.1 (8 * a + k) (by omega)
        have d2 := b2.1 (8 * a + k) (by omega)
        rw [← Nat.add_assoc] at d1 d2
        exact ⟨d1, d2⟩
      · have ha16 := zK_16 hok.1 ha
        have d3 := b3.1 (8 * a + j) (by omega)
        rw [← Nat.add_assoc] at d3
        rw [k4 a j]
        show decide (G2 15 (128 * i + 8 * a + j) ≠ 0) = false
        rw [d3]; rfl
    · rw [zo_n q]
      rcases his.2.2.2 i hi with ⟨z1, z2⟩ | ⟨z1, K', z2, z3, z4⟩
      · exact Or.inl ⟨by rw [e3 2 (by omega) (by omega) i q]; exact z1, z2⟩
      · refine Or.inr ⟨by rw [e3 2 (by omega) (by omega) i q]; exact z1, K', z2, z3, zv_m_fr z3 (fun j j1 j2 => e3 j (by omega) j2 i q) (fun j j1 j2 x x1 x2 => ?_) z4⟩
        rcases (show j = 11 ∨ j = 12 ∨ j = 13 ∨ j = 14 ∨ j = 15 by omega) with rfl | rfl | rfl | rfl | rfl
        · exact b1.2 x (by omega)
        · exact b2.2 x (by omega)
        · rw [e13]
        · rw [e14]
        · exact b3.2 x (by omega)
theorem zm_up_ne {f : Nat → Int32} {c : Nat} {v : Int32} : ∀ j, j ≠ c → upd f c v j = f j := fun _ h => pk_un h
theorem zm_sw {x : Int32} {n : Nat} (hn : n < 2 ^ 31) (h : ∀ k, k ≤ n → ¬ x = nI k) : x.toInt < 0 ∨ (n : Int) < x.toInt := by
  by_cases q : x < 0
  · rw [zf_ilt] at q
    exact Or.inl (by have : (0 : Int32).toInt = 0 := by decide
                     omega)
  · obtain ⟨k, hk, rfl⟩ := nI_of q
    right
    rw [nI_toInt hk]
    rcases Nat.lt_or_ge n k with z | z
    · omega
    · exact absurd rfl (h k z)
