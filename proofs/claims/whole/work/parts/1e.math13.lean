/-! PURE ROWS 13: the whole state, and what each call asks -/
def zo_up (Ks : Nat → Option zK) (c : Nat) (K : zK) : Nat → Option zK := fun i => if i = c then some K else Ks i
theorem zo_s {Ks : Nat → Option zK} {c : Nat} {K : zK} : zo_up Ks c K c = some K := if_pos rfl
theorem zo_n {Ks : Nat → Option zK} {c i : Nat} {K : zK} (h : i ≠ c) : zo_up Ks c K i = Ks i := if_neg h
def zm_is (G : Nat → Nat → Int32) (n : Nat) (ad : Nat → Nat) (Ks : Nat → Option zK) : Prop :=
  n ≤ 400 ∧ (∀ j, j < n → G 1 j = nI (ad j) ∧ ad j < 4096) ∧ (∀ j, j < 512 → G 12 j = 0 ∨ G 12 j = 1) ∧ ∀ c, c < 4 → (G 2 c = 0 ∧ Ks c = none) ∨ (G 2 c = 1 ∧ ∃ K, Ks c = some K ∧ zK_ok K ∧ zv_m G c K)
theorem zm_is_at {G : Nat → Nat → Int32} {n : Nat} {ad : Nat → Nat} {Ks : Nat → Option zK} {c : Nat} (h : zm_is G n ad Ks) (hc : c < 4) (h0 : ¬ G 2 c = 0) : ∃ K, Ks c = some K ∧ zK_ok K ∧ zv_m G c K := by
  rcases h.2.2.2 c hc with ⟨z, -⟩ | ⟨-, z⟩
  · exact absurd z h0
  · exact z
theorem zm_is_no {G : Nat → Nat → Int32} {n : Nat} {ad : Nat → Nat} {Ks : Nat → Option zK} {c : Nat} (h : zm_is G n ad Ks) (hc : c < 4) (h0 : G 2 c = 0) : Ks c = none := by
  rcases h.2.2.2 c hc with ⟨-, z⟩ | ⟨z, -⟩
  · exact z
  · rw [h0] at z; exact absurd z (by decide)
theorem zm_is_see {G G2 : Nat → Nat → Int32} {n : Nat} {ad : Nat → Nat} {Ks : Nat → Option zK} {K : zK} {ca a0 b a ao pl h : Nat} {wr : Int32} (his : zm_is G n ad Ks) (hc : ca < 4) (hK : Ks ca = some K) (hok : zK_ok K) (hv : zv_m G ca K) (had : a0 < 4096) (hb1 : a0 / 2 ^ K.bb = b) (ha1 : b % 2 ^ K.sb = a) (ha2 : 128 * ca + 8 * a = ao)
    (e1 : G2 1 = G 1) (e2 : G2 2 = G 2) (e3 : G2 3 = G 3) (e4 : G2 4 = G 4) (e5 : G2 5 = G 5) (e6 : G2 6 = G 6) (el : G2 13 = upd (G 13) (ao + pl) (nI n)) (f1 : pl < K.wy)
    (f2 : (h = 1 ∧ zf_FP (fun k => G 11 (ao + k)) K.wy (nI b) (nI pl) ∧ G2 7 = upd (G 7) ca (G 7 ca + 1) ∧ G2 8 = G 8 ∧ G2 9 = G 9 ∧ G2 10 = G 10 ∧ G2 11 = G 11 ∧ G2 14 = G 14) ∨
      (h = 0 ∧ zf_FP (fun k => G 11 (ao + k)) K.wy (nI b) (-1) ∧ zc_bi K.wy K.kd (fun k => G 11 (ao + k)) (zm_gs K.kd ao (G 13) (G 14)) (fun k => G 12 (ao + k)) (zm_tb (G 15) ao) pl (G 9 ca) (G 10 ca) (G2 9 ca) (G2 10 ca) ∧ (∀ j, j ≠ ca → G2 9 j = G 9 j ∧ G2 10 j = G 10 j) ∧ G2 7 = G 7 ∧ G2 8 = upd (G 8) ca (G 8 ca + 1) ∧ G2 11 = upd (G 11) (ao + pl) (nI b) ∧ G2 14 = upd (G 14) (ao + pl) (nI n)))
    (f3 : (∀ j, j ≠ ao + pl → G2 12 j = G 12 j) ∧ G2 12 (ao + pl) = if wr = 0 then (if h = 1 then G 12 (ao + pl) else 0) else 1)
    (f6 : zm_tb (G2 15) ao = zt_mt pl 4 (K.wy / 2) 1 0 (zm_tb (G 15) ao)) (f7 : ∀ j, (j < ao ∨ ao + 8 ≤ j) → G2 15 j = G 15 j) :
    ∃ K2, zK_see K a0 wr (nI n) h K2 ∧ zm_is G2 n ad (zo_up Ks ca K2) := by
  obtain ⟨K2, s1, s2⟩ := zv_m_see hv hok had hb1 ha1 ha2 e3 e4 e5 e6 el f1 f2 f3 f6 f7
  refine ⟨K2, s1, his.1, fun j hj => by rw [e1]; exact his.2.1 j hj, fun j hj => ?_, fun c h4 => ?_⟩
  · by_cases q : j = ao + pl
    · subst q
      rw [f3.2]
      split
      · split
        · exact his.2.2.1 _ hj
        · exact Or.inl rfl
      · exact Or.inr rfl
    · rw [f3.1 j q]; exact his.2.2.1 j hj
  · by_cases q : c = ca
    · subst q
      rcases his.2.2.2 c h4 with ⟨z1, z2⟩ | ⟨z1, -⟩
      · rw [hK] at z2; exact absurd z2 (by simp)
      · exact Or.inr ⟨by rw [e2]; exact z1, K2, zo_s, zK_see_ok had hok s1, s2⟩
    · rw [zo_n q]
      rcases his.2.2.2 c h4 with ⟨z1, z2⟩ | ⟨z1, K', z2, z3, z4⟩
      · exact Or.inl ⟨by rw [e2]; exact z1, z2⟩
      · have hsb := hok.1
        have hwy := hok.2.1
        have ha : a < 2 ^ K.sb := by rw [← ha1]; exact Nat.mod_lt _ (Nat.two_pow_pos _)
        have ha16 := zK_16 hsb ha
        refine Or.inr ⟨by rw [e2]; exact z1, K', z2, z3, zv_m_fr z3 (fun i i1 i2 => ?_) (fun i i1 i2 j j1 j2 => ?_) z4⟩
        · rcases (show i = 3 ∨ i = 4 ∨ i = 5 ∨ i = 6 ∨ i = 7 ∨ i = 8 ∨ i = 9 ∨ i = 10 by omega) with rfl | rfl | rfl | rfl | rfl | rfl | rfl | rfl
          · rw [e3]
          · rw [e4]
          · rw [e5]
          · rw [e6]
          · rcases f2 with ⟨y0, y1, y2, y3, y4, y5, y6, y7⟩ | ⟨y0, y1, y2, y3, y4, y5, y6, y7⟩
            · rw [y2, pk_un q]
            · rw [y4]
          · rcases f2 with ⟨y0, y1, y2, y3, y4, y5, y6, y7⟩ | ⟨y0, y1, y2, y3, y4, y5, y6, y7⟩
            · rw [y3]
            · rw [y5, pk_un q]
          · rcases f2 with ⟨y0, y1, y2, y3, y4, y5, y6, y7⟩ | ⟨y0, y1, y2, y3, y4, y5, y6, y7⟩
            · rw [y4]
            · exact (y3 c q).1
          · rcases f2 with ⟨y0, y1, y2, y3, y4, y5, y6, y7⟩ | ⟨y0, y1, y2, y3, y4, y5, y6, y7⟩
            · rw [y5]
            · exact (y3 c q).2
        · have hne : j ≠ ao + pl := by omega
          rcases (show i = 11 ∨ i = 12 ∨ i = 13 ∨ i = 14 ∨ i = 15 by omega) with rfl | rfl | rfl | rfl | rfl
          · rcases f2 with ⟨y0, y1, y2, y3, y4, y5, y6, y7⟩ | ⟨y0, y1, y2, y3, y4, y5, y6, y7⟩
            · rw [y6]
            · rw [y6, pk_un hne]
          · exact f3.1 j hne
          · rw [el, pk_un hne]
          · rcases f2 with ⟨y0, y1, y2, y3, y4, y5, y6, y7⟩ | ⟨y0, y1, y2, y3, y4, y5, y6, y7⟩
            · rw [y7]
            · rw [y7, pk_un hne]
          · exact f7 j (by omega)
/-- how a cache hits, or isn't there -/
def zK_acc (o o2 : Option zK) (ad : Nat) (wr num : Int32) (h : Nat) : Prop := (o = none ∧ o2 = none ∧ h = 0) ∨ ∃ K K2, o = some K ∧ o2 = some K2 ∧ zK_see K ad wr num h K2
theorem zK_see_h {K K2 : zK} {ad h : Nat} {wr num : Int32} (s : zK_see K ad wr num h K2) : h ≤ 1 := by
  obtain ⟨b, a, p1, v1, w1, -, -, -, -, c⟩ := s
  rcases c with ⟨z, -⟩ | ⟨z, -⟩ <;> omega
theorem zK_acc_h {o o2 : Option zK} {ad h : Nat} {wr num : Int32} (s : zK_acc o o2 ad wr num h) : h ≤ 1 := by
  rcases s with ⟨-, -, z⟩ | ⟨K, K2, -, -, z⟩
  · omega
  · exact zK_see_h z
theorem zK_acc_u {o o1 o2 : Option zK} {ad h1 h2 : Nat} {wr num : Int32} (hok : ∀ K, o = some K → K.wy ≤ 8) (s1 : zK_acc o o1 ad wr num h1) (s2 : zK_acc o o2 ad wr num h2) : h1 = h2 ∧ o1 = o2 := by
  rcases s1 with ⟨a1, a2, a3⟩ | ⟨K, K1, a1, a2, a3⟩ <;> rcases s2 with ⟨b1, b2, b3⟩ | ⟨K', K2, b1, b2, b3⟩
  · exact ⟨by omega, by rw [a2, b2]⟩
  · rw [a1] at b1; exact absurd b1 (by simp)
  · rw [a1] at b1; exact absurd b1 (by simp)
  · rw [a1] at b1
    cases b1
    obtain ⟨e1, e2⟩ := zK_see_u (hok K a1) a3 b3
    exact ⟨e1, by rw [a2, b2, e2]⟩
def zh_s (hs : Nat → Nat) : Nat → Nat
  | 0 => 0
  | c + 1 => zh_s hs c + hs c * 2 ^ c
theorem zh_s_c {hs hs' : Nat → Nat} : ∀ c, (∀ i, i < c → hs' i = hs i) → zh_s hs' c = zh_s hs c
  | 0, _ => rfl
  | c + 1, h => by
    show zh_s hs' c + hs' c * 2 ^ c = zh_s hs c + hs c * 2 ^ c
    rw [zh_s_c c (fun i hi => h i (by omega)), h c (by omega)]
theorem zh_s_lt {hs : Nat → Nat} : ∀ c, (∀ i, i < c → hs i ≤ 1) → zh_s hs c < 2 ^ c
  | 0, _ => by simp [zh_s]
  | c + 1, h => by
    show zh_s hs c + hs c * 2 ^ c < 2 ^ (c + 1)
    have h1 := zh_s_lt c (fun i hi => h i (by omega))
    have h2 : hs c * 2 ^ c ≤ 1 * 2 ^ c := Nat.mul_le_mul_right _ (h c (by omega))
    rw [Nat.pow_succ]; omega
theorem zh_or0 : ∀ c : Fin 4, ∀ x : Fin 16, x.val < 2 ^ c.val → nI x.val ||| (nI 1 <<< (nI c.val &&& 31)) = nI (x.val + 1 * 2 ^ c.val) := by decide +kernel
theorem zh_or {c x : Nat} (hc : c < 4) (hx : x < 2 ^ c) : nI x ||| (nI 1 <<< (nI c &&& 31)) = nI (x + 1 * 2 ^ c) := by
  have h1 : 2 ^ c ≤ 2 ^ 3 := Nat.pow_le_pow_right (by decide) (by omega)
  exact zh_or0 ⟨c, hc⟩ ⟨x, by omega⟩ hx
def zh_u (hs : Nat → Nat) (c h : Nat) : Nat → Nat := fun i => if i = c then h else hs i
/-- the caches below c have seen the access -/
def zh_I (Ks Ks1 : Nat → Option zK) (ad : Nat) (wr num : Int32) (c : Nat) (hs : Nat → Nat) (all : Nat) : Prop :=
  (∀ i, i < c → zK_acc (Ks i) (Ks1 i) ad wr num (hs i)) ∧ (∀ i, c ≤ i → Ks1 i = Ks i) ∧ all = zh_s hs c ∧ all < 2 ^ c
theorem zh_I0 {Ks : Nat → Option zK} {ad : Nat} {wr num : Int32} {hs : Nat → Nat} : zh_I Ks Ks ad wr num 0 hs 0 := ⟨fun i h => by omega, fun _ _ => rfl, rfl, by decide⟩
theorem zh_Is {Ks Ks1 : Nat → Option zK} {ad : Nat} {wr num : Int32} {c all h : Nat} {hs : Nat → Nat} {K K2 : zK} (hI : zh_I Ks Ks1 ad wr num c hs all) (hK : Ks1 c = some K) (hs2 : zK_see K ad wr num h K2) : zh_I Ks (zo_up Ks1 c K2) ad wr num (c + 1) (zh_u hs c h) (all + h * 2 ^ c) := by
  obtain ⟨h1, h2, h3, h4⟩ := hI
  have hh := zK_see_h hs2
  refine ⟨fun i hi => ?_, fun i hi => ?_, ?_, ?_⟩
  · by_cases q : i = c
    · subst q
      rw [zo_s]
      refine Or.inr ⟨K, K2, by rw [← h2 i (Nat.le_refl _)]; exact hK, rfl, ?_⟩
      show zK_see K ad wr num (if i = i then h else hs i) K2
      rw [if_pos rfl]; exact hs2
    · rw [zo_n q]
      have := h1 i (by omega)
      show zK_acc (Ks i) (Ks1 i) ad wr num (if i = c then h else hs i)
      rw [if_neg q]; exact this
  · rw [zo_n (by omega)]; exact h2 i (by omega)
  · show all + h * 2 ^ c = zh_s (zh_u hs c h) c + zh_u hs c h c * 2 ^ c
    rw [zh_s_c (hs := hs) (hs' := zh_u hs c h) c (fun i hi => if_neg (by omega)), ← h3]
    show _ = _ + (if c = c then h else hs c) * 2 ^ c
    rw [if_pos rfl]
  · have : h * 2 ^ c ≤ 1 * 2 ^ c := Nat.mul_le_mul_right _ hh
    rw [Nat.pow_succ]; omega
theorem zh_In {Ks Ks1 : Nat → Option zK} {ad : Nat} {wr num : Int32} {c all : Nat} {hs : Nat → Nat} (hI : zh_I Ks Ks1 ad wr num c hs all) (hK : Ks1 c = none) : zh_I Ks Ks1 ad wr num (c + 1) (zh_u hs c 0) all := by
  obtain ⟨h1, h2, h3, h4⟩ := hI
  refine ⟨fun i hi => ?_, fun i hi => h2 i (by omega), ?_, by rw [Nat.pow_succ]; omega⟩
  · by_cases q : i = c
    · subst q
      exact Or.inl ⟨by rw [← h2 i (Nat.le_refl _)]; exact hK, hK, if_pos rfl⟩
    · have := h1 i (by omega)
      show zK_acc (Ks i) (Ks1 i) ad wr num (if i = c then 0 else hs i)
      rw [if_neg q]; exact this
  · show all = zh_s (zh_u hs c 0) c + zh_u hs c 0 c * 2 ^ c
    rw [zh_s_c (hs := hs) (hs' := zh_u hs c 0) c (fun i hi => if_neg (by omega)), ← h3]
    show _ = _ + (if c = c then 0 else hs c) * 2 ^ c
    rw [if_pos rfl]; omega
/-! what each call asks: r the answer, t what is thrown -/
def zq_access (n : Nat) (ad : Nat → Nat) (Ks : Nat → Option zK) (x wr r : Int32) (t n2 : Nat) (ad2 : Nat → Nat) (Ks2 : Nat → Option zK) : Prop :=
  (t = 1 ∧ (∀ k, k < 4096 → x ≠ nI k) ∧ n2 = n ∧ ad2 = ad ∧ Ks2 = Ks) ∨ (t = 2 ∧ (∃ k, k < 4096 ∧ x = nI k) ∧ n = 400 ∧ n2 = n ∧ ad2 = ad ∧ Ks2 = Ks) ∨
  (t = 0 ∧ n < 400 ∧ ∃ (k : Nat) (hs : Nat → Nat), k < 4096 ∧ x = nI k ∧ (∀ i, i < 4 → zK_acc (Ks i) (Ks2 i) k wr (nI n) (hs i)) ∧ (∀ i, 4 ≤ i → Ks2 i = Ks i) ∧ r = nI (zh_s hs 4) ∧ n2 = n + 1 ∧ ad2 = (fun j => if j = n then k else ad j))
theorem zm_is_keep {G : Nat → Nat → Int32} {n k : Nat} {ad : Nat → Nat} {Ks : Nat → Option zK} {G2 : Nat → Nat → Int32} (his : zm_is G n ad Ks) (hn : n < 400) (hk : k < 4096) (e1 : G2 1 = upd (G 1) n (nI k)) (e2 : ∀ i, 2 ≤ i → i ≤ 15 → G2 i = G i) : zm_is G2 (n + 1) (fun j => if j = n then k else ad j) Ks := by
  refine ⟨by omega, fun j hj => ?_, fun j hj => by rw [e2 12 (by omega) (by omega)]; exact his.2.2.1 j hj, fun c hc => ?_⟩
  · rw [e1]
    show upd (G 1) n (nI k) j = nI (if j = n then k else ad j) ∧ (if j = n then k else ad j) < 4096
    by_cases q : j = n
    · subst q
      rw [pk_us, if_pos rfl]; exact ⟨rfl, hk⟩
    · rw [pk_un q, if_neg q]; exact his.2.1 j (by omega)
  · rcases his.2.2.2 c hc with ⟨z1, z2⟩ | ⟨z1, K', z2, z3, z4⟩
    · exact Or.inl ⟨by rw [e2 2 (by omega) (by omega)]; exact z1, z2⟩
    · exact Or.inr ⟨by rw [e2 2 (by omega) (by omega)]; exact z1, K', z2, z3, zv_m_fr z3 (fun i i1 i2 => by rw [e2 i (by omega) (by omega)]) (fun i i1 i2 j _ _ => by rw [e2 i (by omega) (by omega)]) z4⟩
theorem zm_nb {n : Nat} {x : Int32} {h : Nat} (hn : n < 2 ^ 31) (hin : zm_in h x (nI 0) (nI n)) (h0 : h = 0) : ∀ k, k < n + 1 → x ≠ nI k := fun k hk => zm_in0 (by decide) hn hin h0 k (Nat.zero_le _) (by omega)
