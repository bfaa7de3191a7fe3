/-! ROWS 17: what the yard's methods need -/
theorem zu_rng {x : Int32} {lo n : Nat} (hlo : lo < 2 ^ 31) (hn : n < 2 ^ 31) (h1 : ¬ x < nI lo) (h2 : x ≤ nI n) : ∃ k, lo ≤ k ∧ k ≤ n ∧ x = nI k := by
  have h0 : ¬ x < 0 := by
    rw [zf_ilt] at h1 ⊢
    rw [nI_toInt hlo] at h1
    have : (0 : Int32).toInt = 0 := by decide
    omega
  obtain ⟨k, hk, rfl⟩ := nI_of h0
  rw [nI_ltI hk hlo] at h1
  rw [zf_ile, nI_toInt hk, nI_toInt hn] at h2
  exact ⟨k, by omega, by omega, rfl⟩
theorem zu_rngl {x : Int32} {n : Nat} (hn : n < 2 ^ 31) (h1 : ¬ x < 0) (h2 : x < nI n) : ∃ k, k < n ∧ x = nI k := by
  obtain ⟨k, hk, rfl⟩ := nI_of h1
  rw [nI_ltI hk hn] at h2
  exact ⟨k, h2, rfl⟩
theorem zu_no {x : Int32} {lo n : Nat} (hlo : lo < 2 ^ 31) (hn : n < 2 ^ 31) (h : x < nI lo ∨ ¬ x ≤ nI n) : ∀ k, lo ≤ k → k ≤ n → ¬ x = nI k := by
  intro k h1 h2 e
  rcases h with h | h
  · rw [e, nI_ltI (by omega) hlo] at h
    omega
  · rw [e, zf_ile, nI_toInt (by omega), nI_toInt hn] at h
    omega
theorem zu_nol {x : Int32} {n : Nat} (hn : n < 2 ^ 31) (h : x < 0 ∨ ¬ x < nI n) : ∀ k, k < n → ¬ x = nI k := by
  intro k h2 e
  rcases h with h | h
  · rw [e] at h
    exact absurd h (nI_pos (by omega))
  · rw [e, nI_ltI (by omega) hn] at h
    omega
theorem zu_ngt {x y : Int32} (h : ¬ y < x) : x ≤ y := by
  rw [zf_ilt] at h; rw [zf_ile]; omega
theorem zu_gtn {x y : Int32} (h : y < x) : ¬ x ≤ y := by
  rw [zf_ilt] at h; rw [zf_ile]; omega
theorem zo_same {Ks : Nat → Option zK} {c : Nat} {K : zK} (h : Ks c = some K) : zo_up Ks c K = Ks := by
  funext i
  by_cases q : i = c
  · rw [q, zo_s, h]
  · rw [zo_n q]
theorem zc_eq {cI cZ : ClassId} {q : Nat → Nat} {K K2 : zK} {fb fd fs ft : Nat → Int32} {hi mi vi wb : Int32} (e1 : K2.1 = K.1) (e2 : K2.2.1 = (hi, mi, vi, wb)) :
    ([(q 0, zc_ob q K.sb K.wy K.kd K.bb hi mi vi wb), (q 1, .inl (cI, 128, .inl fb)), (q 2, .inl (cZ, 128, .inl fd)), (q 3, .inl (cI, 128, .inl fs)), (q 4, .inl (cI, 16, .inl ft))] : va_W) = zc_W cI cZ q K2 fb fd fs ft := by
  obtain ⟨k1, k2, k3⟩ := K2
  obtain ⟨l1, l2, l3⟩ := K
  simp only at e1 e2
  subst e1 e2
  rfl
/-- the yard's state -/
def zy_is (cI cZ : ClassId) (co : Nat → Option Nat) (T : va_W) (n : Nat) (fa : Nat → Int32) (ad : Nat → Nat) (Ks : Nat → Option zK) : Prop := zy_T cI cZ co Ks T ∧ n ≤ 400 ∧ ∀ j, j < n → fa j = nI (ad j) ∧ ad j < 4096
theorem zy_keep {cI cZ : ClassId} {co : Nat → Option Nat} {T T2 : va_W} {n k : Nat} {fa : Nat → Int32} {ad : Nat → Nat} {Ks Ks2 : Nat → Option zK} (h : zy_is cI cZ co T n fa ad Ks) (hn : n < 400) (hk : k < 4096) (hT : zy_T cI cZ co Ks2 T2) : zy_is cI cZ co T2 (n + 1) (upd fa n (nI k)) (fun j => if j = n then k else ad j) Ks2 := by
  refine ⟨hT, by omega, fun j hj => ?_⟩
  show upd fa n (nI k) j = nI (if j = n then k else ad j) ∧ (if j = n then k else ad j) < 4096
  by_cases q : j = n
  · subst q
    rw [pk_us, if_pos rfl]; exact ⟨rfl, hk⟩
  · rw [pk_un q, if_neg q]; exact h.2.2 j (by omega)
theorem zz_KeqO {D : va_G} {cl : List vw_C} {tys : List (ClassId × FieldType)} {U : State} (hK : va_K D cl tys U) (i j : Nat) {a b : ClassId} {C : String} (hi : tys[i]? = some (a, .object C)) (hj : tys[j]? = some (b, .object C)) : a = b := by
  obtain ⟨k1, c1, -, -, -, h1⟩ := (hK.2 i _ hi).2
  obtain ⟨k2, c2, -, -, -, h2⟩ := (hK.2 j _ hj).2
  exact Option.some.inj (h1.symm.trans h2)
section ZAQ
variable {p : Program} {l : Launch} {e : Env} {R : Room} {s : State} {m : MethodId} {args : Array Value} {below : List Frame} {meth : Method} {c : Code} {H : Heap} {locs : List Loc} {cells slots : Nat} {Q : State → Prop}
variable {cc : ByteArray} {pc : Nat} {ls : Array Slot} {rest : List Value} {D : va_G} {cl : List vw_C} {A : Nat → Prop} {a : Nat} {tys : List (ClassId × FieldType)} {ws : va_W} {H0 : Heap}
theorem zz_aast (hx : p.tables.exec = Jvm.exec) (hb : c.code = cc) (hK : va_K D cl tys s) (hP : va_P D cl ws H) (hD : va_D A ws) (hS : va_S A H0 H locs) (q0 t0 qk ci : Nat) {cA : ClassId} {r : vw_C} {n v : Nat} {vs : List Value} {f : Nat → Option Nat} (ha : ws[q0]? = some (a, .inl (cA, n, .inr (.inr (.inr (.inr f)))))) (ht : tys[t0]? = some (cA, .object r.1)) (hv : ws[qk]? = some (v, .inr (ci, vs))) (hc : cl[ci]? = some r) {k : Nat} (hk : k < n) (hn : n < 2 ^ 31) (hdg : decode cc pc = .ok (.aastore, 1))
    (kk : ∀ (H1 : Heap) (locs1 : List Loc), va_P D cl (ws.set q0 (a, .inl (cA, n, .inr (.inr (.inr (.inr (va_up f k (some v)))))))) H1 → va_D A (ws.set q0 (a, .inl (cA, n, .inr (.inr (.inr (.inr (va_up f k (some v)))))))) → va_S A H0 H1 locs1 → W p l e R s m args below meth c H1 locs1 cells slots Q (F0 m (pc + 1) ls rest)) : W p l e R s m args below meth c H locs cells slots Q (F0 m pc ls (.ref v :: .int (nI k) :: .ref a :: rest)) := by
  refine va_astq hx hb hK hP hD hS q0 t0 qk ci ha ht hv hc (vp_in_nI hk hn) hdg (fun H1 locs1 h1 h2 h3 => ?_)
  rw [nI_clamp (by omega)] at h1 h2
  exact kk H1 locs1 h1 h2 h3
end ZAQ
def zi_bc (k : Nat) (r : Int32) : Prop := (r = nI 1 ∧ (k = 1 ∨ k = 2 ∨ k = 4 ∨ k = 8)) ∨ (¬ r = nI 1 ∧ ¬ (k = 1 ∨ k = 2 ∨ k = 4 ∨ k = 8))
