/-! PURE ROWS 15: the reference's conditions -/
def zq_t (tr : Nat) (x : Int32) : Prop := (tr = 1 ∧ (x = nI 1 ∨ x = nI 2 ∨ x = nI 4 ∨ x = nI 8)) ∨ (tr = 0 ∧ ¬ x = nI 1 ∧ ¬ x = nI 2 ∧ ¬ x = nI 4 ∧ ¬ x = nI 8)
theorem zq_tr1 {tr wy : Nat} {x : Int32} (h : zq_t tr x) (h0 : 0 < tr) (e : x = nI wy) (hw : wy ≤ 8) : wy = 1 ∨ wy = 2 ∨ wy = 4 ∨ wy = 8 := by
  rcases h with ⟨-, z⟩ | ⟨z, -⟩
  · rw [e, nI_eq (by omega) (by omega), nI_eq (by omega) (by omega), nI_eq (by omega) (by omega), nI_eq (by omega) (by omega)] at z
    exact z
  · omega
theorem zq_tr0 {tr wy : Nat} {x : Int32} (h : zq_t tr x) (h0 : tr = 0) (e : x = nI wy) : ¬ (wy = 1 ∨ wy = 2 ∨ wy = 4 ∨ wy = 8) := by
  rcases h with ⟨z, -⟩ | ⟨-, z1, z2, z3, z4⟩
  · omega
  · rintro (q | q | q | q)
    · exact z1 (by rw [e, q])
    · exact z2 (by rw [e, q])
    · exact z3 (by rw [e, q])
    · exact z4 (by rw [e, q])
def zq_gd (x0 x1 x2 x3 x4 : Int32) (g : Nat) : Prop := (g = 1 ∧ ∃ c sb wy kd bb, zq_good x0 x1 x2 x3 x4 c sb wy kd bb) ∨ (g = 0 ∧ ∀ c sb wy kd bb, ¬ zq_good x0 x1 x2 x3 x4 c sb wy kd bb)
theorem zq_gd1 {x0 x1 x2 x3 x4 : Int32} {g : Nat} (h : zq_gd x0 x1 x2 x3 x4 g) (hg : 0 < g) : ∃ c sb wy kd bb, zq_good x0 x1 x2 x3 x4 c sb wy kd bb := by
  rcases h with ⟨-, z⟩ | ⟨z, -⟩
  · exact z
  · omega
theorem zq_gd0 {x0 x1 x2 x3 x4 : Int32} {g : Nat} (h : zq_gd x0 x1 x2 x3 x4 g) (hg : g = 0) : ∀ c sb wy kd bb, ¬ zq_good x0 x1 x2 x3 x4 c sb wy kd bb := by
  rcases h with ⟨z, -⟩ | ⟨-, z⟩
  · omega
  · exact z
theorem zq_l2 {x : Int32} {kd : Nat} (h : x < nI 2) (e : x = nI kd) (hk : kd ≤ 2) : ¬ kd = 2 := by
  rw [e, nI_ltI (by omega) (by decide)] at h
  omega
theorem zq_g2 {x : Int32} {kd : Nat} (h : ¬ x < nI 2) (e : x = nI kd) (hk : kd ≤ 2) : kd = 2 := by
  rw [e, nI_ltI (by omega) (by decide)] at h
  omega
/-- a set and a place that are there -/
def zq_hs (is : Nat) (sb wy : Nat) (x1 x2 : Int32) (hs : Nat) : Prop := (hs = 1 ∧ is = 1 ∧ ∃ a k, a < 2 ^ sb ∧ k < wy ∧ x1 = nI a ∧ x2 = nI k) ∨ (hs = 0 ∧ (is = 0 ∨ ∀ a k, a < 2 ^ sb → k < wy → ¬ (x1 = nI a ∧ x2 = nI k)))
def zq_l (a : List Nat) : Nat → Nat := fun k => a.getD k 0
theorem zm_is_0 {ad : Nat → Nat} : zm_is (fun _ _ => 0) 0 ad (fun _ => none) := ⟨by decide, fun j h => by omega, fun _ _ => Or.inl rfl, fun _ _ => Or.inl ⟨rfl, rfl⟩⟩
theorem zm_di {x : Int32} (h : x = 0 ∨ x = 1) (h0 : ¬ x = 0) : nI 1 = x := by
  rcases h with z | z
  · exact absurd z h0
  · rw [z]; rfl
theorem zq_nsw {x : Int32} (h0 : ¬ x = nI 0) (h1 : ¬ x = nI 1) : Op.lookupswitch.offset [(0, 27), (1, 35)] 51 x.toInt = 51 := by
  have a0 : ¬ (0 : Int) = x.toInt := fun e => h0 (Int32.toInt_inj.mp (by rw [← e]; decide))
  have a1 : ¬ (1 : Int) = x.toInt := fun e => h1 (Int32.toInt_inj.mp (by rw [← e]; decide))
  rw [Op.lookupswitch.offset_cons, if_neg a0, Op.lookupswitch.offset_cons, if_neg a1]; rfl
theorem zm_not {G : Nat → Nat → Int32} {n : Nat} {ad : Nat → Nat} {Ks : Nat → Option zK} {h : Nat} {x : Int32} (his : zm_is G n ad Ks) (hit : (h = 1 ∧ ∃ k, k < 4 ∧ x = nI k ∧ ¬ G 2 k = 0) ∨ (h = 0 ∧ ∀ k, k < 4 → x = nI k → G 2 k = 0)) (h0 : h = 0) : ∀ c, c < 4 → x = nI c → Ks c = none := fun c hc e => zm_is_no his hc (by
  rcases hit with ⟨z, _⟩ | ⟨_, z⟩
  · omega
  · exact z c hc e)
theorem zm_yes {G : Nat → Nat → Int32} {n : Nat} {ad : Nat → Nat} {Ks : Nat → Option zK} {h : Nat} {x : Int32} (his : zm_is G n ad Ks) (hit : (h = 1 ∧ ∃ k, k < 4 ∧ x = nI k ∧ ¬ G 2 k = 0) ∨ (h = 0 ∧ ∀ k, k < 4 → x = nI k → G 2 k = 0)) (h0 : 0 < h) : ∃ k, k < 4 ∧ x = nI k ∧ ¬ G 2 k = 0 := by
  rcases hit with ⟨_, z⟩ | ⟨z, _⟩
  · exact z
  · omega
