/-! PURE ROWS 16: a cache of the class, and its picture -/
def zv_c (K : zK) (fb fd fs ft : Nat → Int32) : Prop :=
  (∀ a k, a < 2 ^ K.sb → k < K.wy → fb (a * K.wy + k) = K.bl a k ∧ fd (a * K.wy + k) = K.di a k ∧ (K.bl a k ≠ -1 → K.kd ≠ 2 → fs (a * K.wy + k) = K.st a k)) ∧ (∀ j, 2 ^ K.sb * K.wy ≤ j → j < 128 → fb j = -1 ∧ fd j = 0) ∧
  ∃ tr : Nat → Nat, (∀ j, j < 16 → ft j = nI (tr j) ∧ tr j < 256) ∧ (K.kd = 2 → ∀ a, a < 2 ^ K.sb → ∀ j, j < 8 → zt_b (tr a) j = K.tr a j)
theorem zu_dv {w a k : Nat} (hk : k < w) : (a * w + k) / w = a ∧ (a * w + k) % w = k := by
  have hw : 0 < w := by omega
  constructor
  · rw [Nat.mul_comm, Nat.mul_add_div hw, Nat.div_eq_of_lt hk, Nat.add_zero]
  · rw [Nat.mul_comm, Nat.mul_add_mod, Nat.mod_eq_of_lt hk]
theorem zu_inj {w a k b j : Nat} (hk : k < w) (hj : j < w) (h : a * w + k = b * w + j) : a = b ∧ k = j := by
  have h1 := zu_dv (a := a) hk
  have h2 := zu_dv (a := b) hj
  rw [h] at h1
  exact ⟨h1.1.symm.trans h2.1, h1.2.symm.trans h2.2⟩
theorem zu_lt {w a k S : Nat} (hk : k < w) (ha : a < S) : a * w + k < S * w := by
  have h1 : (a + 1) * w ≤ S * w := Nat.mul_le_mul_right _ ha
  rw [Nat.add_mul, Nat.one_mul] at h1
  omega
theorem zv_c_bit {K : zK} {fb fd fs ft : Nat → Int32} (hok : zK_ok K) (hv : zv_c K fb fd fs ft) : ∀ j, j < 128 → fd j = 0 ∨ fd j = 1 := by
  intro j hj
  have hw := hok.2.1
  rcases Nat.lt_or_ge j (2 ^ K.sb * K.wy) with q | q
  · have h1 : j / K.wy < 2 ^ K.sb := (Nat.div_lt_iff_lt_mul hw.1).mpr q
    have h2 : j % K.wy < K.wy := Nat.mod_lt _ (by omega)
    have e : j / K.wy * K.wy + j % K.wy = j := by rw [Nat.mul_comm]; exact Nat.div_add_mod j K.wy
    have h3 := (hv.1 _ _ h1 h2).2.1
    rw [e] at h3
    rw [h3]
    exact (hok.2.2.2.2.2 _ _ h1 h2).2.1
  · exact Or.inl (hv.2.1 j q hj).2
theorem zv_c_e {K : zK} {fb fd fs ft : Nat → Int32} (e1 : ∀ a k, K.bl a k = -1 ∧ K.di a k = 0) (e2 : ∀ a j, K.tr a j = false) (hw : K.wy ≤ 8) (hsb : K.sb ≤ 4) (h1 : ∀ j, j < 128 → fb j = -1) (h2 : ∀ j, j < 128 → fd j = 0) (h4 : ∀ j, j < 16 → ft j = 0) : zv_c K fb fd fs ft := by
  refine ⟨fun a k ha hk => ?_, fun j _ hj => ⟨h1 j hj, h2 j hj⟩, fun _ => 0, fun j hj => ⟨by rw [h4 j hj]; rfl, Nat.zero_lt_succ 255⟩, fun _ a ha j hj => ?_⟩
  · have ha16 := zK_16 hsb ha
    have h8 := zu_ix ha16 hw
    exact ⟨by rw [h1 _ (by omega), (e1 a k).1], by rw [h2 _ (by omega), (e1 a k).2], fun z => absurd (e1 a k).1 z⟩
  · rw [e2 a j]
    show decide (0 / 2 ^ j % 2 = 1) = false
    rw [Nat.zero_div]; rfl
theorem zv_c_see {K : zK} {fb fd fs ft fb2 fd2 fs2 ft2 : Nat → Int32} {tr : Nat → Nat} {ad b a pl h : Nat} {wr num hi2 mi2 vi2 wb2 : Int32} (hv : zv_c K fb fd fs ft) (hok : zK_ok K) (had : ad < 4096) (htr : ∀ j, j < 16 → ft j = nI (tr j) ∧ tr j < 256) (htr2 : K.kd = 2 → ∀ a, a < 2 ^ K.sb → ∀ j, j < 8 → zt_b (tr a) j = K.tr a j)
    (hb1 : ad / 2 ^ K.bb = b) (ha1 : b % 2 ^ K.sb = a) (f1 : pl < K.wy)
    (f2 : (h = 1 ∧ zf_FP (fun k => fb (a * K.wy + k)) K.wy (nI b) (nI pl) ∧ hi2 = K.hi + 1 ∧ mi2 = K.mi ∧ vi2 = K.vi ∧ wb2 = K.wb ∧ fb2 = fb) ∨
      (h = 0 ∧ zf_FP (fun k => fb (a * K.wy + k)) K.wy (nI b) (-1) ∧ zc_bi K.wy K.kd (fun k => fb (a * K.wy + k)) (fun k => fs (a * K.wy + k)) (fun k => fd (a * K.wy + k)) (zt_b (tr a)) pl K.vi K.wb vi2 wb2 ∧ hi2 = K.hi ∧ mi2 = K.mi + 1 ∧ fb2 = upd fb (a * K.wy + pl) (nI b)))
    (f3 : (∀ j, j ≠ a * K.wy + pl → fd2 j = fd j) ∧ fd2 (a * K.wy + pl) = if wr = 0 then (if h = 1 then fd (a * K.wy + pl) else 0) else 1)
    (f4 : (∀ j, j ≠ a * K.wy + pl → fs2 j = fs j) ∧ fs2 (a * K.wy + pl) = if h = 1 ∧ K.kd = 1 then fs (a * K.wy + pl) else num)
    (f5 : (K.kd ≠ 2 → ft2 = ft) ∧ (K.kd = 2 → ∃ t2, t2 < 256 ∧ ft2 = upd ft a (nI t2) ∧ zt_b t2 = zt_pa pl 4 (K.wy / 2) 1 (zt_b (tr a)))) :
    ∃ K2, zK_see K ad wr num h K2 ∧ zv_c K2 fb2 fd2 fs2 ft2 ∧ K2.1 = K.1 ∧ K2.2.1 = (hi2, mi2, vi2, wb2) := by
  obtain ⟨c1, c2, -⟩ := hv
  have hsb := hok.1
  have hwy := hok.2.1
  have hk2 := hok.2.2.2.2.1
  have hb2 : b < 4096 := by rw [← hb1]; exact Nat.lt_of_le_of_lt (Nat.div_le_self _ _) had
  have ha : a < 2 ^ K.sb := by rw [← ha1]; exact Nat.mod_lt _ (Nat.two_pow_pos _)
  have ha16 := zK_16 hsb ha
  have g1 : ∀ k, k < K.wy → K.bl a k = fb (a * K.wy + k) := fun k hk => (c1 a k ha hk).1.symm
  have g2 : ∀ k, k < K.wy → K.di a k = fd (a * K.wy + k) := fun k hk => (c1 a k ha hk).2.1.symm
  refine ⟨zK_up K a pl h (nI b) wr num vi2 wb2, ⟨b, a, pl, _, _, hb1, ha1, f1, rfl, ?_⟩, ?_, rfl, ?_⟩
  · rcases f2 with ⟨z0, z1, z2, z3, z4, z5, z6⟩ | ⟨z0, z1, z2, z3, z4, z5⟩
    · exact Or.inl ⟨z0, zf_FP_c g1 z1, z4, z5⟩
    · refine Or.inr ⟨z0, zf_FP_c g1 z1, zc_bi_c (by omega) g1 g2 (fun k hk y1 y2 => ?_) (fun y => ⟨hk2 y, fun j hj => (htr2 y a ha j hj).symm⟩) z2⟩
      exact ((c1 a k ha hk).2.2 (by rw [g1 k hk]; exact y1) y2).symm
  · have hne : h = 1 → K.bl a pl ≠ -1 := by
      intro hh e
      rcases f2 with ⟨z0, z1, -⟩ | ⟨z0, -⟩
      · have := zf_FP_1 (by omega) f1 (zf_FP_c g1 z1)
        rw [e] at this
        exact absurd this.symm (zn_m1 (by omega))
      · omega
    have hadr : ∀ x k, k < K.wy → ¬ (x = a ∧ k = pl) → x * K.wy + k ≠ a * K.wy + pl := fun x k hk q e => q (zu_inj hk f1 e)
    have hbl : ∀ j, j ≠ a * K.wy + pl → fb2 j = fb j := by
      intro j hj
      rcases f2 with ⟨z0, z1, z2, z3, z4, z5, z6⟩ | ⟨z0, z1, z2, z3, z4, z5⟩
      · rw [z6]
      · rw [z5, pk_un hj]
    have hbl1 : fb2 (a * K.wy + pl) = nI b := by
      rcases f2 with ⟨z0, z1, z2, z3, z4, z5, z6⟩ | ⟨z0, z1, z2, z3, z4, z5⟩
      · rw [z6]; exact zf_FP_1 (g := fun k => fb (a * K.wy + k)) (by omega) f1 z1
      · rw [z5, pk_us]
    have htr3 : ∃ tr2 : Nat → Nat, (∀ j, j < 16 → ft2 j = nI (tr2 j) ∧ tr2 j < 256) ∧ (K.kd = 2 → ∀ x, x < 2 ^ K.sb → ∀ j, j < 8 → zt_b (tr2 x) j = (if x = a then zt_pa pl 4 (K.wy / 2) 1 (K.tr a) else K.tr x) j) := by
      by_cases hkd : K.kd = 2
      · obtain ⟨t2, y1, y2, y3⟩ := f5.2 hkd
        refine ⟨fun j => if j = a then t2 else tr j, fun j hj => ?_, fun _ x hx j hj => ?_⟩
        · show ft2 j = nI (if j = a then t2 else tr j) ∧ (if j = a then t2 else tr j) < 256
          by_cases q : j = a
          · rw [if_pos q, y2, q, pk_us]; exact ⟨rfl, y1⟩
          · rw [if_neg q, y2, pk_un q]; exact htr j hj
        · show zt_b (if x = a then t2 else tr x) j = _
          by_cases q : x = a
          · rw [if_pos q, if_pos q, y3, zt_same (hk2 hkd) f1, zt_same (hk2 hkd) f1]
            exact zt_mt_c _ _ _ _ _ _ j (htr2 hkd a ha j hj)
          · rw [if_neg q, if_neg q]; exact htr2 hkd x hx j hj
      · exact ⟨tr, fun j hj => by rw [f5.1 hkd]; exact htr j hj, fun z => absurd z hkd⟩
    refine ⟨fun x k hx hk => ?_, fun j h1 h2 => ?_, htr3⟩
    · have hx : x < 2 ^ K.sb := hx
      have hk : k < K.wy := hk
      obtain ⟨d1, d2, d3⟩ := c1 x k hx hk
      show fb2 (x * K.wy + k) = zu_2 K.bl a pl (nI b) x k ∧ fd2 (x * K.wy + k) = zu_2 K.di a pl _ x k ∧ (zu_2 K.bl a pl (nI b) x k ≠ -1 → K.kd ≠ 2 → fs2 (x * K.wy + k) = zu_2 K.st a pl _ x k)
      by_cases q : x = a ∧ k = pl
      · obtain ⟨rfl, rfl⟩ := q
        rw [zu_2s, zu_2s, zu_2s]
        refine ⟨hbl1, by rw [f3.2, ← g2 k hk], fun _ y2 => ?_⟩
        rw [f4.2]
        by_cases z : h = 1 ∧ K.kd = 1
        · rw [if_pos z, if_pos z]; exact d3 (hne z.1) y2
        · rw [if_neg z, if_neg z]
      · rw [zu_2n q, zu_2n q, zu_2n q]
        refine ⟨by rw [hbl _ (hadr x k hk q), d1], by rw [f3.1 _ (hadr x k hk q), d2], fun y1 y2 => by rw [f4.1 _ (hadr x k hk q)]; exact d3 y1 y2⟩
    · have h1 : 2 ^ K.sb * K.wy ≤ j := h1
      have := zu_lt f1 ha
      have hj : j ≠ a * K.wy + pl := by omega
      obtain ⟨d1, d2⟩ := c2 j h1 h2
      exact ⟨by rw [hbl _ hj, d1], by rw [f3.1 _ hj, d2]⟩
  · show (if h = 1 then K.hi + 1 else K.hi, if h = 1 then K.mi else K.mi + 1, vi2, wb2) = (hi2, mi2, vi2, wb2)
    rcases f2 with ⟨z0, z1, z2, z3, z4, z5, z6⟩ | ⟨z0, z1, z2, z3, z4, z5⟩
    · rw [if_pos z0, if_pos z0, z2, z3]
    · rw [if_neg (by omega), if_neg (by omega), z3, z4]
theorem zv_c_ct0 {K : zK} {fb fd fs ft : Nat → Int32} (hok : zK_ok K) (hv : zv_c K fb fd fs ft) : zf_ct (fun j => decide (fb j ≠ -1)) 128 = zK_ct K 0 := by
  have hsb := hok.1
  have hwy := hok.2.1
  have hS : 2 ^ K.sb ≤ 2 ^ 4 := Nat.pow_le_pow_right (by decide) hsb
  refine zf_ct_lay (S := 2 ^ K.sb) (W := K.wy) hwy.2 (by omega) (fun j h1 h2 => ?_) (fun j h1 h2 => ?_) (fun s k h1 h2 h3 => ?_) (fun s k h1 h2 => ?_)
  · rw [(hv.2.1 j h1 h2).1]; rfl
  · show decide _ = false
    rw [decide_eq_false_iff_not]
    rintro ⟨z, -⟩
    omega
  · show decide _ = false
    rw [decide_eq_false_iff_not]
    rintro ⟨-, z, -⟩
    omega
  · show decide (fb (s * K.wy + k) ≠ -1) = decide ((8 * s + k) / 8 < 2 ^ K.sb ∧ (8 * s + k) % 8 < K.wy ∧ K.bl ((8 * s + k) / 8) ((8 * s + k) % 8) ≠ -1 ∧ (0 = 0 ∨ _))
    rw [show (8 * s + k) / 8 = s by omega, show (8 * s + k) % 8 = k by omega, (hv.1 s k h1 h2).1, decide_eq_decide]
    exact ⟨fun z => ⟨h1, h2, z, Or.inl rfl⟩, fun z => z.2.2.1⟩
theorem zv_c_ct1 {K : zK} {fb fd fs ft : Nat → Int32} (hok : zK_ok K) (hv : zv_c K fb fd fs ft) : zf_ct (fun j => decide (fd j ≠ 0)) 128 = zK_ct K 1 := by
  have hsb := hok.1
  have hwy := hok.2.1
  have hS : 2 ^ K.sb ≤ 2 ^ 4 := Nat.pow_le_pow_right (by decide) hsb
  refine zf_ct_lay (S := 2 ^ K.sb) (W := K.wy) hwy.2 (by omega) (fun j h1 h2 => ?_) (fun j h1 h2 => ?_) (fun s k h1 h2 h3 => ?_) (fun s k h1 h2 => ?_)
  · rw [(hv.2.1 j h1 h2).2]; rfl
  · show decide _ = false
    rw [decide_eq_false_iff_not]
    rintro ⟨z, -⟩
    omega
  · show decide _ = false
    rw [decide_eq_false_iff_not]
    rintro ⟨-, z, -⟩
    omega
  · show decide (fd (s * K.wy + k) ≠ 0) = decide ((8 * s + k) / 8 < 2 ^ K.sb ∧ (8 * s + k) % 8 < K.wy ∧ K.bl ((8 * s + k) / 8) ((8 * s + k) % 8) ≠ -1 ∧ (1 = 0 ∨ K.di ((8 * s + k) / 8) ((8 * s + k) % 8) ≠ 0))
    rw [show (8 * s + k) / 8 = s by omega, show (8 * s + k) % 8 = k by omega, (hv.1 s k h1 h2).2.1, decide_eq_decide]
    exact ⟨fun z => ⟨h1, h2, fun e => z ((hok.2.2.2.2.2 s k h1 h2).2.2 e), Or.inr z⟩, fun z => z.2.2.2.resolve_left (by decide)⟩
/-- the cells of a cache -/
def zc_W (cI cZ : ClassId) (q : Nat → Nat) (K : zK) (fb fd fs ft : Nat → Int32) : va_W :=
  [(q 0, zc_ob q K.sb K.wy K.kd K.bb K.hi K.mi K.vi K.wb), (q 1, .inl (cI, 128, .inl fb)), (q 2, .inl (cZ, 128, .inl fd)), (q 3, .inl (cI, 128, .inl fs)), (q 4, .inl (cI, 16, .inl ft))]
def zc_is (cI cZ : ClassId) (a : Nat) (K : zK) (w : va_W) : Prop := zK_ok K ∧ ∃ q fb fd fs ft, q 0 = a ∧ w = zc_W cI cZ q K fb fd fs ft ∧ zv_c K fb fd fs ft
/-- the cells of all caches that were made -/
def zy_T (cI cZ : ClassId) (co : Nat → Option Nat) (Ks : Nat → Option zK) (T : va_W) : Prop :=
  ∃ L : Nat → va_W, List.Perm T (L 0 ++ (L 1 ++ (L 2 ++ L 3))) ∧ ∀ i, i < 4 → (co i = none ∧ Ks i = none ∧ L i = []) ∨ (∃ a K, co i = some a ∧ Ks i = some K ∧ zc_is cI cZ a K (L i))
theorem zy_none {cI cZ : ClassId} {co : Nat → Option Nat} {Ks : Nat → Option zK} {T : va_W} {i : Nat} (h : zy_T cI cZ co Ks T) (hi : i < 4) (hc : co i = none) : Ks i = none := by
  obtain ⟨L, -, h2⟩ := h
  rcases h2 i hi with ⟨-, z, -⟩ | ⟨a, K, z, -⟩
  · exact z
  · rw [hc] at z; exact absurd z (by simp)
theorem zy_pick (L : Nat → va_W) {i : Nat} (hi : i < 4) : ∃ R : va_W, ∀ M : Nat → va_W, (∀ j, j ≠ i → M j = L j) → List.Perm (M 0 ++ (M 1 ++ (M 2 ++ M 3))) (M i ++ R) := by
  rcases (show i = 0 ∨ i = 1 ∨ i = 2 ∨ i = 3 by omega) with rfl | rfl | rfl | rfl
  · exact ⟨L 1 ++ (L 2 ++ L 3), fun M h => by rw [h 1 (by decide), h 2 (by decide), h 3 (by decide)]⟩
  · exact ⟨L 0 ++ (L 2 ++ L 3), fun M h => by rw [h 0 (by decide), h 2 (by decide), h 3 (by decide)]; exact List.perm_append_comm_assoc _ _ _⟩
  · exact ⟨L 0 ++ (L 1 ++ L 3), fun M h => by
      rw [h 0 (by decide), h 1 (by decide), h 3 (by decide)]
      exact (List.Perm.append_left _ (List.perm_append_comm_assoc _ _ _)).trans (List.perm_append_comm_assoc _ _ _)⟩
  · exact ⟨L 0 ++ (L 1 ++ L 2), fun M h => by
      rw [h 0 (by decide), h 1 (by decide), h 2 (by decide)]
      refine (List.Perm.append_left _ (List.Perm.append_left _ List.perm_append_comm)).trans ?_
      exact (List.Perm.append_left _ (List.perm_append_comm_assoc _ _ _)).trans (List.perm_append_comm_assoc _ _ _)⟩
theorem zy_put {cI cZ : ClassId} {co : Nat → Option Nat} {Ks : Nat → Option zK} {L : Nat → va_W} {R : va_W} {i a : Nat} {K2 : zK} {w2 : va_W} (hi : i < 4) (hR : ∀ M : Nat → va_W, (∀ j, j ≠ i → M j = L j) → List.Perm (M 0 ++ (M 1 ++ (M 2 ++ M 3))) (M i ++ R))
    (h2 : ∀ j, j < 4 → (co j = none ∧ Ks j = none ∧ L j = []) ∨ (∃ a K, co j = some a ∧ Ks j = some K ∧ zc_is cI cZ a K (L j))) (hw : zc_is cI cZ a K2 w2) {co2 : Nat → Option Nat} (hco : co2 i = some a ∧ ∀ j, j ≠ i → co2 j = co j) : zy_T cI cZ co2 (zo_up Ks i K2) (w2 ++ R) := by
  refine ⟨fun j => if j = i then w2 else L j, ?_, fun j hj => ?_⟩
  · have := hR (fun j => if j = i then w2 else L j) (fun j hj => if_neg hj)
    rw [if_pos (rfl : i = i)] at this
    exact this.symm
  · by_cases q : j = i
    · subst q
      refine Or.inr ⟨a, K2, hco.1, zo_s, ?_⟩
      show zc_is cI cZ a K2 (if j = j then w2 else L j)
      rw [if_pos rfl]; exact hw
    · show (co2 j = none ∧ zo_up Ks i K2 j = none ∧ (if j = i then w2 else L j) = []) ∨ ∃ a K, co2 j = some a ∧ zo_up Ks i K2 j = some K ∧ zc_is cI cZ a K (if j = i then w2 else L j)
      rw [if_neg q, zo_n q, hco.2 j q]; exact h2 j hj
theorem zy_split {cI cZ : ClassId} {co : Nat → Option Nat} {Ks : Nat → Option zK} {T : va_W} {i a : Nat} (h : zy_T cI cZ co Ks T) (hi : i < 4) (hc : co i = some a) :
    ∃ (K : zK) (q : Nat → Nat) (fb fd fs ft : Nat → Int32) (R : va_W), Ks i = some K ∧ zK_ok K ∧ zv_c K fb fd fs ft ∧ q 0 = a ∧ List.Perm T (zc_W cI cZ q K fb fd fs ft ++ R) ∧ ∀ K2 w2, zc_is cI cZ a K2 w2 → zy_T cI cZ co (zo_up Ks i K2) (w2 ++ R) := by
  obtain ⟨L, h1, h2⟩ := h
  obtain ⟨R, hR⟩ := zy_pick L hi
  rcases h2 i hi with ⟨z, -⟩ | ⟨a', K, z1, z2, hok, q, fb, fd, fs, ft, z3, z4, z5⟩
  · rw [hc] at z; exact absurd z (by simp)
  · rw [hc] at z1
    cases z1
    refine ⟨K, q, fb, fd, fs, ft, R, z2, hok, z5, z3, ?_, fun K2 w2 hw => zy_put hi hR h2 hw ⟨hc, fun _ _ => rfl⟩⟩
    rw [← z4]
    exact h1.trans (hR L (fun _ _ => rfl))
theorem zy_new {cI cZ : ClassId} {co : Nat → Option Nat} {Ks : Nat → Option zK} {T : va_W} {i a : Nat} {K2 : zK} {w2 : va_W} (h : zy_T cI cZ co Ks T) (hi : i < 4) (hc : co i = none) (hw : zc_is cI cZ a K2 w2) : zy_T cI cZ (va_up co i (some a)) (zo_up Ks i K2) (w2 ++ T) := by
  obtain ⟨L, h1, h2⟩ := h
  obtain ⟨R, hR⟩ := zy_pick L hi
  have hL : L i = [] := by
    rcases h2 i hi with ⟨-, -, z⟩ | ⟨a', K, z, -⟩
    · exact z
    · rw [hc] at z; exact absurd z (by simp)
  have h3 : List.Perm T R := by
    have := h1.trans (hR L (fun _ _ => rfl))
    rw [hL, List.nil_append] at this
    exact this
  obtain ⟨M, m1, m2⟩ := zy_put (co2 := va_up co i (some a)) hi hR h2 hw ⟨by simp [va_up], fun j hj => by simp [va_up, hj]⟩
  exact ⟨M, (List.Perm.append_left _ h3).trans m1, m2⟩
theorem zy_0 {cI cZ : ClassId} : zy_T cI cZ (fun _ => none) (fun _ => none) [] := ⟨fun _ => [], List.Perm.refl _, fun _ _ => Or.inl ⟨rfl, rfl, rfl⟩⟩
