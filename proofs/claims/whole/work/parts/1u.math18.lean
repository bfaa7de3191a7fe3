/-! PURE ROWS 18: both sides answer alike -/
def zl_cv (b : Bool) (n : Nat) (ad : Nat → Nat) (x y r : Int32) (t : Nat) : Prop :=
  (t = 1 ∧ zm_bad x y) ∨ (t = 0 ∧ ∃ (li bb c : Nat) (nx : Nat → Nat) (Ls : List Nat), x = nI li ∧ y = nI bb ∧ (1 ≤ li ∧ li ≤ 64) ∧ bb ≤ 6 ∧ r = nI c ∧ (∀ i, i < n → zx_NX n (fun i => ad i / 2 ^ bb) i (nx i)) ∧ zc_R b li nx n Ls c)
theorem zm_badn {x y : Int32} {li bb : Nat} (h : zm_bad x y) (e1 : x = nI li) (e2 : y = nI bb) (h1 : 1 ≤ li ∧ li ≤ 64) (h2 : bb ≤ 6) : False := by
  rcases h with h | h
  · exact h li h1.1 h1.2 e1
  · exact h bb h2 e2
theorem zl_cv_u {n : Nat} {ad : Nat → Nat} {x y r1 r2 : Int32} {t1 t2 : Nat} (hn : n ≤ 400) (h1 : zl_cv false n ad x y r1 t1) (h2 : zm_cv n ad x y r2 t2) : t1 = t2 ∧ (t1 = 0 → r1 = r2) ∧ t1 ≤ 3 := by
  rcases h1 with ⟨a1, a2⟩ | ⟨a1, li, bb, c, nx, Ls, e1, e2, e3, e4, e5, e6, e7⟩ <;> rcases h2 with ⟨b1, b2⟩ | ⟨b1, li', bb', c', M, f1, f2, f3, f4, f5, f6, f7⟩
  · exact ⟨by omega, fun z => by omega, by omega⟩
  · exact (zm_badn a2 f1 f2 ⟨f3, f4⟩ f5).elim
  · exact (zm_badn b2 e1 e2 e3 e4).elim
  · have g1 : li = li' := (nI_eq (by omega) (by omega)).mp (e1.symm.trans f1)
    have g2 : bb = bb' := (nI_eq (by omega) (by omega)).mp (e2.symm.trans f2)
    subst g1 g2
    refine ⟨by omega, fun _ => ?_, by omega⟩
    rw [e5, f6, zc_curve hn e3.1 e6 e7 f7]
theorem zl_bs_u {n : Nat} {ad : Nat → Nat} {x y r1 r2 : Int32} {t1 t2 : Nat} (hn : n ≤ 400) (h1 : zl_cv true n ad x y r1 t1) (h2 : zm_bs n ad x y r2 t2) : t1 = t2 ∧ (t1 = 0 → r1 = r2) ∧ t1 ≤ 3 := by
  rcases h1 with ⟨a1, a2⟩ | ⟨a1, li, bb, c, nx, Ls, e1, e2, e3, e4, e5, e6, e7⟩ <;> rcases h2 with ⟨b1, b2⟩ | ⟨b1, li', bb', c', nx', E, f1, f2, f3, f4, f5, f6, f7, f8⟩
  · exact ⟨by omega, fun z => by omega, by omega⟩
  · exact (zm_badn a2 f1 f2 ⟨f3, f4⟩ f5).elim
  · exact (zm_badn b2 e1 e2 e3 e4).elim
  · have g1 : li = li' := (nI_eq (by omega) (by omega)).mp (e1.symm.trans f1)
    have g2 : bb = bb' := (nI_eq (by omega) (by omega)).mp (e2.symm.trans f2)
    subst g1 g2
    refine ⟨by omega, fun _ => ?_, by omega⟩
    have f9 := zb_R_c n E c' (nx' := nx) (fun i hi => zx_NX_u (f7 i) (e6 i hi)) f8
    rw [e5, f6, zb_best hn e3.1 e6 e7 f9]
theorem zq_access_u {n : Nat} {ad : Nat → Nat} {Ks : Nat → Option zK} {x wr r1 r2 : Int32} {t1 t2 n1 n2 : Nat} {ad1 ad2 : Nat → Nat} {Ks1 Ks2 : Nat → Option zK} (hok : ∀ i, i < 4 → ∀ K, Ks i = some K → K.wy ≤ 8) (h1 : zq_access n ad Ks x wr r1 t1 n1 ad1 Ks1) (h2 : zq_access n ad Ks x wr r2 t2 n2 ad2 Ks2) : t1 = t2 ∧ (t1 = 0 → r1 = r2) ∧ t1 ≤ 3 ∧ n1 = n2 ∧ ad1 = ad2 ∧ Ks1 = Ks2 := by
  rcases h1 with ⟨a0, a1, a2, a3, a4⟩ | ⟨a0, ⟨ka, a1, a1'⟩, a5, a2, a3, a4⟩ | ⟨a0, a1, k, hs, a2, a3, a4, a5, a6, a7, a8⟩ <;> rcases h2 with ⟨b0, b1, b2, b3, b4⟩ | ⟨b0, ⟨kb, b1, b1'⟩, b5, b2, b3, b4⟩ | ⟨b0, b1, k', hs', b2, b3, b4, b5, b6, b7, b8⟩
  · exact ⟨by omega, fun z => by omega, by omega, by omega, by rw [a3, b3], by rw [a4, b4]⟩
  · exact absurd b1' (a1 kb b1)
  · exact absurd b3 (a1 k' b2)
  · exact absurd a1' (b1 ka a1)
  · exact ⟨by omega, fun z => by omega, by omega, by omega, by rw [a3, b3], by rw [a4, b4]⟩
  · omega
  · exact absurd a3 (b1 k a2)
  · omega
  · have e : k = k' := (nI_eq (by omega) (by omega)).mp (a3.symm.trans b3)
    subst e
    have hu : ∀ i, i < 4 → hs i = hs' i ∧ Ks1 i = Ks2 i := fun i hi => zK_acc_u (hok i hi) (a4 i hi) (b4 i hi)
    refine ⟨by omega, fun _ => ?_, by omega, by omega, by rw [a8, b8], ?_⟩
    · rw [a6, b6, zh_s_c 4 (fun i hi => (hu i hi).1)]
    · funext i
      rcases Nat.lt_or_ge i 4 with q | q
      · exact (hu i q).2
      · rw [a5 i q, b5 i q]
theorem zq_good_u {x0 x1 x2 x3 x4 : Int32} {c sb wy kd bb c' sb' wy' kd' bb' : Nat} (h1 : zq_good x0 x1 x2 x3 x4 c sb wy kd bb) (h2 : zq_good x0 x1 x2 x3 x4 c' sb' wy' kd' bb') : c = c' ∧ sb = sb' ∧ wy = wy' ∧ kd = kd' ∧ bb = bb' := by
  obtain ⟨a1, a2, a3, a4, a5, -, e0, e1, e2, e3, e4⟩ := h1
  obtain ⟨b1, b2, b3, b4, b5, -, f0, f1, f2, f3, f4⟩ := h2
  exact ⟨(nI_eq (by omega) (by omega)).mp (e0.symm.trans f0), (nI_eq (by omega) (by omega)).mp (e1.symm.trans f1), (nI_eq (by omega) (by omega)).mp (e2.symm.trans f2), (nI_eq (by omega) (by omega)).mp (e3.symm.trans f3), (nI_eq (by omega) (by omega)).mp (e4.symm.trans f4)⟩
theorem zq_make_u {Ks : Nat → Option zK} {x0 x1 x2 x3 x4 : Int32} {t1 t2 : Nat} {Ks1 Ks2 : Nat → Option zK} (h1 : zq_make Ks x0 x1 x2 x3 x4 t1 Ks1) (h2 : zq_make Ks x0 x1 x2 x3 x4 t2 Ks2) : t1 = t2 ∧ t1 ≤ 3 ∧ Ks1 = Ks2 := by
  rcases h1 with ⟨a1, a2, a3⟩ | ⟨a1, c, sb, wy, kd, bb, a2, a3⟩ <;> rcases h2 with ⟨b1, b2, b3⟩ | ⟨b1, c', sb', wy', kd', bb', b2, b3⟩
  · exact ⟨by omega, by omega, by rw [a2, b2]⟩
  · exact absurd b2 (a3 _ _ _ _ _)
  · exact absurd a2 (b3 _ _ _ _ _)
  · obtain ⟨rfl, rfl, rfl, rfl, rfl⟩ := zq_good_u a2 b2
    exact ⟨by omega, by omega, by rw [a3, b3]⟩
theorem zq_flush_u {Ks : Nat → Option zK} {x r1 r2 : Int32} {t1 t2 : Nat} {Ks1 Ks2 : Nat → Option zK} (h1 : zq_flush Ks x r1 t1 Ks1) (h2 : zq_flush Ks x r2 t2 Ks2) : t1 = t2 ∧ (t1 = 0 → r1 = r2) ∧ t1 ≤ 3 ∧ Ks1 = Ks2 := by
  rcases h1 with ⟨a1, a2, a3⟩ | ⟨a1, c, K, a2, a3, a4, a5, a6⟩ <;> rcases h2 with ⟨b1, b2, b3⟩ | ⟨b1, c', K', b2, b3, b4, b5, b6⟩
  · exact ⟨by omega, fun z => by omega, by omega, by rw [a2, b2]⟩
  · rw [a3 c' b2 b3] at b4; exact absurd b4 (by simp)
  · rw [b3 c a2 a3] at a4; exact absurd a4 (by simp)
  · have e : c = c' := (nI_eq (by omega) (by omega)).mp (a3.symm.trans b3)
    subst e
    rw [a4] at b4
    cases b4
    exact ⟨by omega, fun _ => by rw [a5, b5], by omega, by rw [a6, b6]⟩
theorem zq_about_u {Ks : Nat → Option zK} {x y r1 r2 : Int32} {t1 t2 : Nat} (h1 : zq_about Ks x y r1 t1) (h2 : zq_about Ks x y r2 t2) : t1 = t2 ∧ (t1 = 0 → r1 = r2) ∧ t1 ≤ 3 := by
  rcases h1 with ⟨a1, a2⟩ | ⟨c, K, a2, a3, a4, a5⟩ <;> rcases h2 with ⟨b1, b2⟩ | ⟨c', K', b2, b3, b4, b5⟩
  · exact ⟨by omega, fun z => by omega, by omega⟩
  · rw [a2 c' b2 b3] at b4; exact absurd b4 (by simp)
  · rw [b2 c a2 a3] at a4; exact absurd a4 (by simp)
  · have e : c = c' := (nI_eq (by omega) (by omega)).mp (a3.symm.trans b3)
    subst e
    rw [a4] at b4
    cases b4
    rcases a5 with ⟨z1, z2⟩ | ⟨k, z1, z2, z3, z4⟩ <;> rcases b5 with ⟨y1, y2⟩ | ⟨k', y1, y2, y3, y4⟩
    · exact ⟨by omega, fun z => by omega, by omega⟩
    · exact absurd y3 (z2 k' y2)
    · exact absurd z3 (y2 k z2)
    · have e : k = k' := (nI_eq (by omega) (by omega)).mp (z3.symm.trans y3)
      subst e
      exact ⟨by omega, fun _ => by rw [z4, y4], by omega⟩
theorem zq_place_u {Ks : Nat → Option zK} {x y z u r1 r2 : Int32} {t1 t2 : Nat} (hok : ∀ i, i < 4 → ∀ K, Ks i = some K → K.wy ≤ 8 ∧ K.sb ≤ 4) (h1 : zq_place Ks x y z u r1 t1) (h2 : zq_place Ks x y z u r2 t2) : t1 = t2 ∧ (t1 = 0 → r1 = r2) ∧ t1 ≤ 3 := by
  rcases h1 with ⟨a1, a2⟩ | ⟨c, K, a2, a3, a4, a5⟩ <;> rcases h2 with ⟨b1, b2⟩ | ⟨c', K', b2, b3, b4, b5⟩
  · exact ⟨by omega, fun z => by omega, by omega⟩
  · rw [a2 c' b2 b3] at b4; exact absurd b4 (by simp)
  · rw [b2 c a2 a3] at a4; exact absurd a4 (by simp)
  · have e : c = c' := (nI_eq (by omega) (by omega)).mp (a3.symm.trans b3)
    subst e
    have hk := hok c a2 K a4
    rw [a4] at b4
    cases b4
    rcases a5 with ⟨z1, z2⟩ | ⟨a, k, z1, z2, z3, z4, z5⟩ <;> rcases b5 with ⟨y1, y2⟩ | ⟨a', k', y1, y2, y3, y4, y5⟩
    · exact ⟨by omega, fun z => by omega, by omega⟩
    · exact absurd ⟨y3, y4⟩ (z2 a' k' y1 y2)
    · exact absurd ⟨z3, z4⟩ (y2 a k z1 z2)
    · have g1 := zK_16 hk.2 z1
      have g2 := zK_16 hk.2 y1
      have e1 : a = a' := (nI_eq (by omega) (by omega)).mp (z3.symm.trans y3)
      have e2 : k = k' := (nI_eq (by omega) (by omega)).mp (z4.symm.trans y4)
      subst e1 e2
      rcases z5 with ⟨p1, p2, p3⟩ | ⟨p1, p2, p3⟩ | ⟨p1, p2, p3⟩ <;> rcases y5 with ⟨q1, q2, q3⟩ | ⟨q1, q2, q3⟩ | ⟨q1, q2, q3⟩
      · exact ⟨by omega, fun z => by omega, by omega⟩
      · exact absurd q2 p2
      · exact absurd q2 p3
      · exact absurd p2 q2
      · exact ⟨by omega, fun _ => by rw [p3, q3], by omega⟩
      · exact absurd (p2.symm.trans q2) (by decide)
      · exact absurd p2 q3
      · exact absurd (p2.symm.trans q2) (by decide)
      · exact ⟨by omega, fun _ => by rw [p3, q3], by omega⟩
theorem zm_is_ok {G : Nat → Nat → Int32} {n : Nat} {ad : Nat → Nat} {Ks : Nat → Option zK} (h : zm_is G n ad Ks) : ∀ i, i < 4 → ∀ K, Ks i = some K → K.wy ≤ 8 ∧ K.sb ≤ 4 := by
  intro i hi K hK
  rcases h.2.2.2 i hi with ⟨-, z⟩ | ⟨-, K', z, z2, -⟩
  · rw [hK] at z; exact absurd z (by simp)
  · rw [hK] at z
    cases z
    exact ⟨z2.2.1.2, z2.1⟩
theorem zl_cmp (x : Int64) : lg_cmp x x = 0 := by
  unfold lg_cmp
  rw [if_neg (by simp), if_pos rfl]
theorem zl_30 {L i : Nat} (hL : L ≤ 3072) (hi : i ≤ 4000) (h : ¬ nI L - nI 6 < nI i) : i + 6 ≤ L := by
  rcases Nat.lt_or_ge L 6 with q | q
  · exfalso
    apply h
    rw [zf_ilt, nI_toInt (by omega)]
    have : (nI L - nI 6).toInt < 0 := by
      rcases (show L = 0 ∨ L = 1 ∨ L = 2 ∨ L = 3 ∨ L = 4 ∨ L = 5 by omega) with rfl | rfl | rfl | rfl | rfl | rfl <;> decide
    omega
  · rw [pk_sub q, nI_ltI (by omega) (by omega)] at h
    omega
theorem zl_up {f : Nat → Int64} {x : Int64} : vp_updL f 0 x 0 = x := by simp [vp_updL]
