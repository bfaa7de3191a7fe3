def rm_cm_thrown : Room := { frames := 0, cells := 0, slots := 0, locals := 0 }
set_option maxHeartbeats 4000000 in
set_option maxRecDepth 100000 in
/-- what was thrown -/
theorem cm_thrown (l : Launch) (dC : Nat → ClassId) (dI : Nat → Nat → Nat) (cI cZ cO cL : ClassId) (q : Nat → Nat) (th : Nat) (n : Nat) (lc : Nat) (kp : Nat)  : zz_Mi l ky_M_thrown kw_M_thrown rm_cm_thrown (dC, dI) (zz_ty cI cZ cO cL) [(q 0, zm_ob q th n lc kp)] [.ref (q 0)] (fun (r : Int32) (w : va_W) => w = [(q 0, zm_ob q th n lc kp)] ∧ (r = nI th)) 0 0 := by
  refine zz_entry_i (cc := kb_M_thrown) (maxL := 1) (own := zk_RM) (by decide) rfl rfl (Nat.le_of_ble_eq_true rfl) ?_
  intro p e s m args below meth c Q hx hb hml hown hts hin hP hK A hD hA hS hret ls hl
  have hl : lv_has ls 1 [(0, .ref (q 0))] := hl
  obtain ⟨H, eH⟩ : ∃ z, z = s.heap := ⟨_, rfl⟩
  obtain ⟨locs, eL⟩ : ∃ z : List Loc, z = [] := ⟨_, rfl⟩
  rw [← eH] at hP ⊢
  have hS : va_S A s.heap H locs := by rw [eH, eL]; exact hS
  rw [← eL]
  refine lv_aload_n hx hb kd_M_thrown_0 rfl (lv_at hl 0 rfl) ?_
  refine va_get (D := (dC, dI)) (ci := 3) (v := .int (nI th)) (C := zk_RM) (T := zk_TM) (N := 22) hx hb hts kl_M hown hK hP 0 rfl rfl 0 (by decide) (hts _ kj_346) (fun _ h9 => h9) rfl kd_M_thrown_1 ?_
  exact hret _ _ _ _ _ _ kd_M_thrown_4 hP hD hS (⟨rfl, rfl⟩)

def rm_cm_accesses : Room := { frames := 0, cells := 0, slots := 0, locals := 0 }
set_option maxHeartbeats 4000000 in
set_option maxRecDepth 100000 in
/-- how many accesses -/
theorem cm_accesses (l : Launch) (dC : Nat → ClassId) (dI : Nat → Nat → Nat) (cI cZ cO cL : ClassId) (q : Nat → Nat) (th : Nat) (n : Nat) (lc : Nat) (kp : Nat)  : zz_Mi l ky_M_accesses kw_M_accesses rm_cm_accesses (dC, dI) (zz_ty cI cZ cO cL) [(q 0, zm_ob q th n lc kp)] [.ref (q 0)] (fun (r : Int32) (w : va_W) => w = [(q 0, zm_ob q 0 n lc kp)] ∧ (r = nI n)) 0 0 := by
  refine zz_entry_i (cc := kb_M_accesses) (maxL := 1) (own := zk_RM) (by decide) rfl rfl (Nat.le_of_ble_eq_true rfl) ?_
  intro p e s m args below meth c Q hx hb hml hown hts hin hP hK A hD hA hS hret ls hl
  have hl : lv_has ls 1 [(0, .ref (q 0))] := hl
  obtain ⟨H, eH⟩ : ∃ z, z = s.heap := ⟨_, rfl⟩
  obtain ⟨locs, eL⟩ : ∃ z : List Loc, z = [] := ⟨_, rfl⟩
  rw [← eH] at hP ⊢
  have hS : va_S A s.heap H locs := by rw [eH, eL]; exact hS
  rw [← eL]
  refine lv_aload_n hx hb kd_M_accesses_0 rfl (lv_at hl 0 rfl) ?_
  refine lv_iconst (v := nI 0) hx hb kd_M_accesses_1 (by decide) ?_
  refine va_put (D := (dC, dI)) (ci := 3) (v := .int (nI 0)) (ty := .int) (C := zk_RM) (T := zk_TM) (N := 22) hx hb hts kl_M zk_tM zk_kM zk_nM hown hK hP hD hS 0 rfl rfl 0 (by decide) (hts _ kj_346) (fun _ h9 => h9) rfl (by decide +kernel) rfl rfl (Nat.le_of_ble_eq_true rfl) kd_M_accesses_2 (fun H locs hP hD hS => ?_)
  have hP : va_P (dC, dI) zk_cl [(q 0, zm_ob q 0 n lc kp)] H := hP
  have hD : va_D A [(q 0, zm_ob q 0 n lc kp)] := hD
  refine lv_aload_n hx hb kd_M_accesses_5 rfl (lv_at hl 0 rfl) ?_
  refine va_get (D := (dC, dI)) (ci := 3) (v := .int (nI n)) (C := zk_RM) (T := zk_TM) (N := 22) hx hb hts kl_M hown hK hP 0 rfl rfl 1 (by decide) (hts _ kj_347) (fun _ h9 => h9) rfl kd_M_accesses_6 ?_
  exact hret _ _ _ _ _ _ kd_M_accesses_9 hP hD hS (⟨rfl, rfl⟩)

def rm_cm_in : Room := { frames := 0, cells := 0, slots := 0, locals := 0 }
set_option maxHeartbeats 4000000 in
set_option maxRecDepth 100000 in
/-- between -/
theorem cm_in (l : Launch) (dC : Nat → ClassId) (dI : Nat → Nat → Nat) (cI cZ cO cL : ClassId) (v : Int32) (lo : Int32) (up : Int32)  : zz_Mi l ky_M_in kw_M_in rm_cm_in (dC, dI) (zz_ty cI cZ cO cL) [] [.int v, .int lo, .int up] (fun (r : Int32) (w : va_W) => ∃ (h : Nat), w = [] ∧ (r = nI h) ∧ (zm_in h v lo up) ∧ (h ≤ 1)) 0 0 := by
  refine zz_entry_z (cc := kb_M_in) (maxL := 3) (own := zk_RM) (by decide) rfl rfl (Nat.le_of_ble_eq_true rfl) ?_
  intro p e s m args below meth c Q hx hb hml hown hts hin hP hK A hD hA hS hret ls hl
  have hl : lv_has ls 3 [(0, .int v), (1, .int lo), (2, .int up)] := hl
  obtain ⟨H, eH⟩ : ∃ z, z = s.heap := ⟨_, rfl⟩
  obtain ⟨locs, eL⟩ : ∃ z : List Loc, z = [] := ⟨_, rfl⟩
  rw [← eH] at hP ⊢
  have hS : va_S A s.heap H locs := by rw [eH, eL]; exact hS
  rw [← eL]
  refine lv_iload_n hx hb kd_M_in_0 rfl (lv_at hl 0 rfl) ?_
  refine lv_iload_n hx hb kd_M_in_1 rfl (lv_at hl 1 rfl) ?_
  refine lv_icmp_lt (tgt := 14) hx hb kd_M_in_2 (by decide) (fun c2 => ?_) (fun c2 => ?_)
  · skip
    refine lv_iconst (v := nI 0) hx hb kd_M_in_14 (by decide) ?_
    exact hret _ _ _ _ _ _ (Or.inl rfl) kd_M_in_15 hP hD hS (⟨0, rfl, rfl, (by first | exact Or.inl ⟨rfl, c2, c7⟩ | exact Or.inr ⟨rfl, Or.inr c7⟩ | exact Or.inr ⟨rfl, Or.inl c2⟩), (by omega)⟩)
  · skip
    refine lv_iload_n hx hb kd_M_in_5 rfl (lv_at hl 0 rfl) ?_
    refine lv_iload_n hx hb kd_M_in_6 rfl (lv_at hl 2 rfl) ?_
    refine lv_icmp_gt (tgt := 14) hx hb kd_M_in_7 (by decide) (fun c7 => ?_) (fun c7 => ?_)
    · skip
      refine lv_iconst (v := nI 0) hx hb kd_M_in_14 (by decide) ?_
      exact hret _ _ _ _ _ _ (Or.inl rfl) kd_M_in_15 hP hD hS (⟨0, rfl, rfl, (by first | exact Or.inl ⟨rfl, c2, c7⟩ | exact Or.inr ⟨rfl, Or.inr c7⟩ | exact Or.inr ⟨rfl, Or.inl c2⟩), (by omega)⟩)
    · skip
      refine lv_iconst (v := nI 1) hx hb kd_M_in_10 (by decide) ?_
      refine lv_goto (tgt := 15) hx hb kd_M_in_11 (by decide) ?_
      exact hret _ _ _ _ _ _ (Or.inr rfl) kd_M_in_15 hP hD hS (⟨1, rfl, rfl, (by first | exact Or.inl ⟨rfl, c2, c7⟩ | exact Or.inr ⟨rfl, Or.inr c7⟩ | exact Or.inr ⟨rfl, Or.inl c2⟩), (by omega)⟩)

def rm_cm_refuse : Room := { frames := 0, cells := 0, slots := 0, locals := 0 }
set_option maxHeartbeats 4000000 in
set_option maxRecDepth 100000 in
/-- what is thrown -/
theorem cm_refuse (l : Launch) (dC : Nat → ClassId) (dI : Nat → Nat → Nat) (cI cZ cO cL : ClassId) (q : Nat → Nat) (th : Nat) (n : Nat) (lc : Nat) (kp : Nat) (o1 : Nat) (o2 : Nat) (o3 : Nat) (h1 : o1 ≤ 1) (h2 : o2 ≤ 1) (h3 : o3 ≤ 1) : zz_Mi l ky_M_refuse kw_M_refuse rm_cm_refuse (dC, dI) (zz_ty cI cZ cO cL) [(q 0, zm_ob q th n lc kp)] [.ref (q 0), .int (nI o1), .int (nI o2), .int (nI o3)] (fun (r : Int32) (w : va_W) => ∃ (t2 : Nat), ∃ (h : Nat), w = [(q 0, zm_ob q t2 n lc kp)] ∧ (r = nI h) ∧ (zm_rf o1 o2 o3 t2) ∧ ((0 < t2 ∧ h = 1) ∨ (t2 = 0 ∧ h = 0)) ∧ (h ≤ 1)) 0 0 := by
  refine zz_entry_z (cc := kb_M_refuse) (maxL := 4) (own := zk_RM) (by decide) rfl rfl (Nat.le_of_ble_eq_true rfl) ?_
  intro p e s m args below meth c Q hx hb hml hown hts hin hP hK A hD hA hS hret ls hl
  have hl : lv_has ls 4 [(0, .ref (q 0)), (1, .int (nI o1)), (2, .int (nI o2)), (3, .int (nI o3))] := hl
  obtain ⟨H, eH⟩ : ∃ z, z = s.heap := ⟨_, rfl⟩
  obtain ⟨locs, eL⟩ : ∃ z : List Loc, z = [] := ⟨_, rfl⟩
  rw [← eH] at hP ⊢
  have hS : va_S A s.heap H locs := by rw [eH, eL]; exact hS
  rw [← eL]
  refine lv_aload_n hx hb kd_M_refuse_0 rfl (lv_at hl 0 rfl) ?_
  refine lv_iload_n hx hb kd_M_refuse_1 rfl (lv_at hl 1 rfl) ?_
  refine zz_if_eq (tgt := 9) hx hb kd_M_refuse_2 (by decide) (by omega) (fun c2 => ?_) (fun c2 => ?_)
  · skip
    refine lv_iload_n hx hb kd_M_refuse_9 rfl (lv_at hl 2 rfl) ?_
    refine zz_if_eq (tgt := 17) hx hb kd_M_refuse_10 (by decide) (by omega) (fun c10 => ?_) (fun c10 => ?_)
    · skip
      refine lv_iload_n hx hb kd_M_refuse_17 rfl (lv_at hl 3 rfl) ?_
      refine zz_if_eq (tgt := 25) hx hb kd_M_refuse_18 (by decide) (by omega) (fun c18 => ?_) (fun c18 => ?_)
      · skip
        refine lv_iconst (v := nI 0) hx hb kd_M_refuse_25 (by decide) ?_
        refine va_put (D := (dC, dI)) (ci := 3) (v := .int (nI 0)) (ty := .int) (C := zk_RM) (T := zk_TM) (N := 22) hx hb hts kl_M zk_tM zk_kM zk_nM hown hK hP hD hS 0 rfl rfl 0 (by decide) (hts _ kj_346) (fun _ h9 => h9) rfl (by decide +kernel) rfl rfl (Nat.le_of_ble_eq_true rfl) kd_M_refuse_26 (fun H locs hP hD hS => ?_)
        have hP : va_P (dC, dI) zk_cl [(q 0, zm_ob q 0 n lc kp)] H := hP
        have hD : va_D A [(q 0, zm_ob q 0 n lc kp)] := hD
        refine lv_aload_n hx hb kd_M_refuse_29 rfl (lv_at hl 0 rfl) ?_
        refine va_get (D := (dC, dI)) (ci := 3) (v := .int (nI 0)) (C := zk_RM) (T := zk_TM) (N := 22) hx hb hts kl_M hown hK hP 0 rfl rfl 0 (by decide) (hts _ kj_346) (fun _ h9 => h9) rfl kd_M_refuse_30 ?_
        refine zz_if_le (tgt := 40) hx hb kd_M_refuse_33 (by decide) (by decide) (fun _ => ?_) (fun c9 => absurd c9 (by decide))
        refine lv_iconst (v := nI 0) hx hb kd_M_refuse_40 (by decide) ?_
        exact hret _ _ _ _ _ _ (Or.inl rfl) kd_M_refuse_41 hP hD hS (⟨0, 0, rfl, rfl, (by unfold zm_rf; omega), (by omega), (by omega)⟩)
      · skip
        refine lv_iconst (v := nI 3) hx hb kd_M_refuse_21 (by decide) ?_
        refine lv_goto (tgt := 26) hx hb kd_M_refuse_22 (by decide) ?_
        refine va_put (D := (dC, dI)) (ci := 3) (v := .int (nI 3)) (ty := .int) (C := zk_RM) (T := zk_TM) (N := 22) hx hb hts kl_M zk_tM zk_kM zk_nM hown hK hP hD hS 0 rfl rfl 0 (by decide) (hts _ kj_346) (fun _ h9 => h9) rfl (by decide +kernel) rfl rfl (Nat.le_of_ble_eq_true rfl) kd_M_refuse_26 (fun H locs hP hD hS => ?_)
        have hP : va_P (dC, dI) zk_cl [(q 0, zm_ob q 3 n lc kp)] H := hP
        have hD : va_D A [(q 0, zm_ob q 3 n lc kp)] := hD
        refine lv_aload_n hx hb kd_M_refuse_29 rfl (lv_at hl 0 rfl) ?_
        refine va_get (D := (dC, dI)) (ci := 3) (v := .int (nI 3)) (C := zk_RM) (T := zk_TM) (N := 22) hx hb hts kl_M hown hK hP 0 rfl rfl 0 (by decide) (hts _ kj_346) (fun _ h9 => h9) rfl kd_M_refuse_30 ?_
        refine zz_if_le (tgt := 40) hx hb kd_M_refuse_33 (by decide) (by decide) (fun c9 => absurd c9 (by decide)) (fun _ => ?_)
        refine lv_iconst (v := nI 1) hx hb kd_M_refuse_36 (by decide) ?_
        refine lv_goto (tgt := 41) hx hb kd_M_refuse_37 (by decide) ?_
        exact hret _ _ _ _ _ _ (Or.inr rfl) kd_M_refuse_41 hP hD hS (⟨3, 1, rfl, rfl, (by unfold zm_rf; omega), (by omega), (by omega)⟩)
    · skip
      refine lv_iconst (v := nI 2) hx hb kd_M_refuse_13 (by decide) ?_
      refine lv_goto (tgt := 26) hx hb kd_M_refuse_14 (by decide) ?_
      refine va_put (D := (dC, dI)) (ci := 3) (v := .int (nI 2)) (ty := .int) (C := zk_RM) (T := zk_TM) (N := 22) hx hb hts kl_M zk_tM zk_kM zk_nM hown hK hP hD hS 0 rfl rfl 0 (by decide) (hts _ kj_346) (fun _ h9 => h9) rfl (by decide +kernel) rfl rfl (Nat.le_of_ble_eq_true rfl) kd_M_refuse_26 (fun H locs hP hD hS => ?_)
      have hP : va_P (dC, dI) zk_cl [(q 0, zm_ob q 2 n lc kp)] H := hP
      have hD : va_D A [(q 0, zm_ob q 2 n lc kp)] := hD
      refine lv_aload_n hx hb kd_M_refuse_29 rfl (lv_at hl 0 rfl) ?_
      refine va_get (D := (dC, dI)) (ci := 3) (v := .int (nI 2)) (C := zk_RM) (T := zk_TM) (N := 22) hx hb hts kl_M hown hK hP 0 rfl rfl 0 (by decide) (hts _ kj_346) (fun _ h9 => h9) rfl kd_M_refuse_30 ?_
      refine zz_if_le (tgt := 40) hx hb kd_M_refuse_33 (by decide) (by decide) (fun c9 => absurd c9 (by decide)) (fun _ => ?_)
      refine lv_iconst (v := nI 1) hx hb kd_M_refuse_36 (by decide) ?_
      refine lv_goto (tgt := 41) hx hb kd_M_refuse_37 (by decide) ?_
      exact hret _ _ _ _ _ _ (Or.inr rfl) kd_M_refuse_41 hP hD hS (⟨2, 1, rfl, rfl, (by unfold zm_rf; omega), (by omega), (by omega)⟩)
  · skip
    refine lv_iconst (v := nI 1) hx hb kd_M_refuse_5 (by decide) ?_
    refine lv_goto (tgt := 26) hx hb kd_M_refuse_6 (by decide) ?_
    refine va_put (D := (dC, dI)) (ci := 3) (v := .int (nI 1)) (ty := .int) (C := zk_RM) (T := zk_TM) (N := 22) hx hb hts kl_M zk_tM zk_kM zk_nM hown hK hP hD hS 0 rfl rfl 0 (by decide) (hts _ kj_346) (fun _ h9 => h9) rfl (by decide +kernel) rfl rfl (Nat.le_of_ble_eq_true rfl) kd_M_refuse_26 (fun H locs hP hD hS => ?_)
    have hP : va_P (dC, dI) zk_cl [(q 0, zm_ob q 1 n lc kp)] H := hP
    have hD : va_D A [(q 0, zm_ob q 1 n lc kp)] := hD
    refine lv_aload_n hx hb kd_M_refuse_29 rfl (lv_at hl 0 rfl) ?_
    refine va_get (D := (dC, dI)) (ci := 3) (v := .int (nI 1)) (C := zk_RM) (T := zk_TM) (N := 22) hx hb hts kl_M hown hK hP 0 rfl rfl 0 (by decide) (hts _ kj_346) (fun _ h9 => h9) rfl kd_M_refuse_30 ?_
    refine zz_if_le (tgt := 40) hx hb kd_M_refuse_33 (by decide) (by decide) (fun c9 => absurd c9 (by decide)) (fun _ => ?_)
    refine lv_iconst (v := nI 1) hx hb kd_M_refuse_36 (by decide) ?_
    refine lv_goto (tgt := 41) hx hb kd_M_refuse_37 (by decide) ?_
    exact hret _ _ _ _ _ _ (Or.inr rfl) kd_M_refuse_41 hP hD hS (⟨1, 1, rfl, rfl, (by unfold zm_rf; omega), (by omega), (by omega)⟩)

def rm_cm_isThere : Room := { frames := 1, cells := 0, slots := 0, locals := 22 }
set_option maxHeartbeats 4000000 in
set_option maxRecDepth 100000 in
/-- whether there is such a cache -/
theorem cm_isThere (l : Launch) (dC : Nat → ClassId) (dI : Nat → Nat → Nat) (cI cZ cO cL : ClassId) (q : Nat → Nat) (th : Nat) (n : Nat) (lc : Nat) (kp : Nat) (gt : Nat → Int32) (x : Int32)  : zz_Mi l ky_M_isThere kw_M_isThere rm_cm_isThere (dC, dI) (zz_ty cI cZ cO cL) [(q 0, zm_ob q th n lc kp), (q 2, .inl (cZ, 4, .inl gt))] [.ref (q 0), .int x] (fun (r : Int32) (w : va_W) => ∃ (h : Nat), w = [(q 0, zm_ob q th n lc kp), (q 2, .inl (cZ, 4, .inl gt))] ∧ (r = nI h) ∧ ((h = 1 ∧ ∃ k, k < 4 ∧ x = nI k ∧ ¬ gt k = 0) ∨ (h = 0 ∧ ∀ k, k < 4 → x = nI k → gt k = 0)) ∧ (h ≤ 1)) 0 0 := by
  refine zz_entry_z (cc := kb_M_isThere) (maxL := 2) (own := zk_RM) (by decide) rfl rfl (Nat.le_of_ble_eq_true rfl) ?_
  intro p e s m args below meth c Q hx hb hml hown hts hin hP hK A hD hA hS hret ls hl
  have hl : lv_has ls 2 [(0, .ref (q 0)), (1, .int x)] := hl
  obtain ⟨H, eH⟩ : ∃ z, z = s.heap := ⟨_, rfl⟩
  obtain ⟨locs, eL⟩ : ∃ z : List Loc, z = [] := ⟨_, rfl⟩
  rw [← eH] at hP ⊢
  have hS : va_S A s.heap H locs := by rw [eH, eL]; exact hS
  rw [← eL]
  refine lv_iload_n hx hb kd_M_isThere_0 rfl (lv_at hl 1 rfl) ?_
  refine lv_iconst (v := nI 0) hx hb kd_M_isThere_1 (by decide) ?_
  refine lv_iconst (v := nI 3) hx hb kd_M_isThere_2 (by decide) ?_
  refine zz_iS (As := [.int x, .int (nI 0), .int (nI 3)]) (rest := []) (wc := []) (wr := [(q 0, zm_ob q th n lc kp), (q 2, .inl (cZ, 4, .inl gt))]) ⟨hx, hb, hml, hown, hts⟩ (cm_in l dC dI cI cZ cO cL x (nI 0) (nI 3) ) (zz_cwS hts kj_400 kj_27 kj_398 kj_399 kz_M_in rfl rfl ⟨Nat.le_of_ble_eq_true rfl, Nat.le_of_ble_eq_true rfl⟩) hP hD hK hS hA rfl hl.1 rfl (Nat.le_of_ble_eq_true rfl) kd_M_isThere_3 ⟨by decide, by decide⟩ (fun r9 w9 H locs hw hP hD hS => ?_)
  obtain ⟨h_1, rfl, rfl, hin3, hb13⟩ := hw
  have hP : va_P (dC, dI) zk_cl [(q 0, zm_ob q th n lc kp), (q 2, .inl (cZ, 4, .inl gt))] H := hP
  have hD : va_D A [(q 0, zm_ob q th n lc kp), (q 2, .inl (cZ, 4, .inl gt))] := hD
  refine zz_if_eq (tgt := 35) hx hb kd_M_isThere_6 (by decide) (by omega) (fun c6 => ?_) (fun c6 => ?_)
  · skip
    refine lv_iconst (v := nI 0) hx hb kd_M_isThere_35 (by decide) ?_
    exact hret _ _ _ _ _ _ (Or.inl rfl) kd_M_isThere_36 hP hD hS (⟨0, rfl, rfl, (by first | exact Or.inl ⟨rfl, k, by omega, rfl, c28⟩ | exact Or.inr ⟨rfl, fun j hj e => by rw [← (nI_eq (by omega) (by omega)).mp e]; exact c28⟩ | exact Or.inr ⟨rfl, fun j hj e => absurd e (zm_in0 (by decide) (by decide) hin3 c6 j (by omega) (by omega))⟩), (by omega)⟩)
  · skip
    obtain ⟨k, hk1, hk2, rfl⟩ := zm_inN (by decide) (by decide) hin3 c6
    refine lv_aload_n hx hb kd_M_isThere_9 rfl (lv_at hl 0 rfl) ?_
    refine va_get (D := (dC, dI)) (ci := 3) (v := .ref (q 2)) (C := zk_RM) (T := zk_TM) (N := 22) hx hb hts kl_M hown hK hP 0 rfl rfl 3 (by decide) (hts _ kj_349) (fun _ h9 => h9) rfl kd_M_isThere_10 ?_
    refine lv_iload_n hx hb kd_M_isThere_13 rfl (lv_at hl 1 rfl) ?_
    refine lv_iconst (v := nI 0) hx hb kd_M_isThere_14 (by decide) ?_
    refine lv_iconst (v := nI 3) hx hb kd_M_isThere_15 (by decide) ?_
    refine zz_iS (As := [.int (nI k), .int (nI 0), .int (nI 3)]) (rest := [.ref (q 2)]) (wc := []) (wr := [(q 0, zm_ob q th n lc kp), (q 2, .inl (cZ, 4, .inl gt))]) ⟨hx, hb, hml, hown, hts⟩ (cm_in l dC dI cI cZ cO cL (nI k) (nI 0) (nI 3) ) (zz_cwS hts kj_400 kj_27 kj_398 kj_399 kz_M_in rfl rfl ⟨Nat.le_of_ble_eq_true rfl, Nat.le_of_ble_eq_true rfl⟩) hP hD hK hS hA rfl hl.1 rfl (Nat.le_of_ble_eq_true rfl) kd_M_isThere_16 ⟨by decide, by decide⟩ (fun r9 w9 H locs hw hP hD hS => ?_)
    obtain ⟨h_3, rfl, rfl, hin16, hb116⟩ := hw
    have hP : va_P (dC, dI) zk_cl [(q 0, zm_ob q th n lc kp), (q 2, .inl (cZ, 4, .inl gt))] H := hP
    have hD : va_D A [(q 0, zm_ob q th n lc kp), (q 2, .inl (cZ, 4, .inl gt))] := hD
    refine zz_if_eq (tgt := 26) hx hb kd_M_isThere_19 (by decide) (by omega) (fun c19 => ?_) (fun c19 => ?_)
    · skip
      exact absurd c19 (zm_inT hin16 (nI_nlt (by omega) (by omega)) (nI_nlt (by omega) (by omega)))
    · skip
      refine lv_iload_n hx hb kd_M_isThere_22 rfl (lv_at hl 1 rfl) ?_
      refine lv_goto (tgt := 27) hx hb kd_M_isThere_23 (by decide) ?_
      refine zz_zald hx hb hK hP 1 1 rfl rfl (k := k) (by omega) (by decide) kd_M_isThere_27 ?_
      refine lv_if_eq (tgt := 35) hx hb kd_M_isThere_28 (by decide) (fun c28 => ?_) (fun c28 => ?_)
      · skip
        refine lv_iconst (v := nI 0) hx hb kd_M_isThere_35 (by decide) ?_
        exact hret _ _ _ _ _ _ (Or.inl rfl) kd_M_isThere_36 hP hD hS (⟨0, rfl, rfl, (by first | exact Or.inl ⟨rfl, k, by omega, rfl, c28⟩ | exact Or.inr ⟨rfl, fun j hj e => by rw [← (nI_eq (by omega) (by omega)).mp e]; exact c28⟩ | exact Or.inr ⟨rfl, fun j hj e => absurd e (zm_in0 (by decide) (by decide) hin3 c6 j (by omega) (by omega))⟩), (by omega)⟩)
      · skip
        refine lv_iconst (v := nI 1) hx hb kd_M_isThere_31 (by decide) ?_
        refine lv_goto (tgt := 36) hx hb kd_M_isThere_32 (by decide) ?_
        exact hret _ _ _ _ _ _ (Or.inr rfl) kd_M_isThere_36 hP hD hS (⟨1, rfl, rfl, (by first | exact Or.inl ⟨rfl, k, by omega, rfl, c28⟩ | exact Or.inr ⟨rfl, fun j hj e => by rw [← (nI_eq (by omega) (by omega)).mp e]; exact c28⟩ | exact Or.inr ⟨rfl, fun j hj e => absurd e (zm_in0 (by decide) (by decide) hin3 c6 j (by omega) (by omega))⟩), (by omega)⟩)

def rm_cm_empty : Room := { frames := 0, cells := 0, slots := 0, locals := 0 }
set_option maxHeartbeats 4000000 in
set_option maxRecDepth 100000 in
/-- a cache is empty -/
theorem cm_empty (l : Launch) (dC : Nat → ClassId) (dI : Nat → Nat → Nat) (cI cZ cO cL : ClassId) (q : Nat → Nat) (th : Nat) (n : Nat) (lc : Nat) (kp : Nat) (gb : Nat → Int32) (gd : Nat → Int32) (gp : Nat → Int32) (ca : Nat) (hc : ca < 4) : zz_Mv l ky_M_empty kw_M_empty rm_cm_empty (dC, dI) (zz_ty cI cZ cO cL) [(q 0, zm_ob q th n lc kp), (q 11, .inl (cI, 512, .inl gb)), (q 12, .inl (cZ, 512, .inl gd)), (q 15, .inl (cZ, 512, .inl gp))] [.ref (q 0), .int (nI ca)] (fun (w : va_W) => ∃ (gb2 : Nat → Int32), ∃ (gd2 : Nat → Int32), ∃ (gp2 : Nat → Int32), w = [(q 0, zm_ob q th n lc kp), (q 11, .inl (cI, 512, .inl gb2)), (q 12, .inl (cZ, 512, .inl gd2)), (q 15, .inl (cZ, 512, .inl gp2))] ∧ (zu_Bk gb gb2 (128 * ca) 128 (-1)) ∧ (zu_Bk gd gd2 (128 * ca) 128 0) ∧ (zu_Bk gp gp2 (128 * ca) 128 0)) 0 0 := by
  refine zz_entry_v (cc := kb_M_empty) (maxL := 3) (own := zk_RM) (by decide) rfl rfl (Nat.le_of_ble_eq_true rfl) ?_
  intro p e s m args below meth c Q hx hb hml hown hts hin hP hK A hD hA hS hret ls hl
  have hl : lv_has ls 3 [(0, .ref (q 0)), (1, .int (nI ca))] := hl
  obtain ⟨H, eH⟩ : ∃ z, z = s.heap := ⟨_, rfl⟩
  obtain ⟨locs, eL⟩ : ∃ z : List Loc, z = [] := ⟨_, rfl⟩
  rw [← eH] at hP ⊢
  have hS : va_S A s.heap H locs := by rw [eH, eL]; exact hS
  rw [← eL]
  refine lv_iconst (v := nI 0) hx hb kd_M_empty_0 (by decide) ?_
  refine lv_istore_n (lv' := [(2, .int (nI 0)), (0, .ref (q 0)), (1, .int (nI ca))]) hx hb kd_M_empty_1 rfl hl (by decide) rfl (fun ls hl => ?_)
  have hc2 : ∀ (nn : Nat), ∀ (k : Nat) (gb1 : Nat → Int32) (gd1 : Nat → Int32) (gp1 : Nat → Int32), 128 - k < nn → (k ≤ 128) → (zu_Bk gb gb1 (128 * ca) k (-1)) → (zu_Bk gd gd1 (128 * ca) k 0) → (zu_Bk gp gp1 (128 * ca) k 0) → ∀ (H : Heap) (locs : List Loc), va_P (dC, dI) zk_cl [(q 0, zm_ob q th n lc kp), (q 11, .inl (cI, 512, .inl gb1)), (q 12, .inl (cZ, 512, .inl gd1)), (q 15, .inl (cZ, 512, .inl gp1))] H → va_D A [(q 0, zm_ob q th n lc kp), (q 11, .inl (cI, 512, .inl gb1)), (q 12, .inl (cZ, 512, .inl gd1)), (q 15, .inl (cZ, 512, .inl gp1))] → va_S A s.heap H locs → ∀ ls : Array Slot, lv_has ls 3 [(0, .ref (q 0)), (1, .int (nI ca)), (2, .int (nI k))] → W p l e rm_cm_empty s m args below meth c H locs 0 0 Q (F0 m 2 ls []) := by
    intro nn
    induction nn with
    | zero => intro k gb1 gd1 gp1 hm; exact absurd hm (Nat.not_lt_zero _)
    | succ nn ih =>
      intro k gb1 gd1 gp1 hm hk h1 h2 h3 H locs hP hD hS ls hl
      refine lv_iload_n hx hb kd_M_empty_2 rfl (lv_at hl 2 rfl) ?_
      refine lv_sipush (v := nI 128) hx hb kd_M_empty_3 (by decide) ?_
      refine zz_icmp_ge (tgt := 54) hx hb kd_M_empty_6 (by decide) (by omega) (by decide) (fun c6 => ?_) (fun c6 => ?_)
      · skip
        exact hret _ _ _ _ _ kd_M_empty_54 hP hD hS (⟨gb1, gd1, gp1, rfl, ((show k = 128 by omega) ▸ h1), ((show k = 128 by omega) ▸ h2), ((show k = 128 by omega) ▸ h3)⟩)
      · skip
        refine lv_aload_n hx hb kd_M_empty_9 rfl (lv_at hl 0 rfl) ?_
        refine va_get (D := (dC, dI)) (ci := 3) (v := .ref (q 11)) (C := zk_RM) (T := zk_TM) (N := 22) hx hb hts kl_M hown hK hP 0 rfl rfl 12 (by decide) (hts _ kj_358) (fun _ h9 => h9) rfl kd_M_empty_10 ?_
        refine lv_sipush (v := nI 128) hx hb kd_M_empty_13 (by decide) ?_
        refine lv_iload_n hx hb kd_M_empty_16 rfl (lv_at hl 1 rfl) ?_
        refine lv_imul hx hb kd_M_empty_17 ?_
        refine zz_top (y := nI (128 * ca)) (pk_mul _ _) ?_
        refine lv_iload_n hx hb kd_M_empty_18 rfl (lv_at hl 2 rfl) ?_
        refine lv_iadd hx hb kd_M_empty_19 ?_
        refine zz_top (y := nI (128 * ca + k)) (nI_add _ _) ?_
        refine lv_iconst (v := (-1)) hx hb kd_M_empty_20 (by decide) ?_
        refine zz_iast hx hb hK hP hD hS 1 0 rfl rfl (k := 128 * ca + k) (by omega) (by decide) kd_M_empty_21 (fun H locs hP hD hS => ?_)
        have hP : va_P (dC, dI) zk_cl [(q 0, zm_ob q th n lc kp), (q 11, .inl (cI, 512, .inl (upd gb1 (128 * ca + k) (-1)))), (q 12, .inl (cZ, 512, .inl gd1)), (q 15, .inl (cZ, 512, .inl gp1))] H := hP
        have hD : va_D A [(q 0, zm_ob q th n lc kp), (q 11, .inl (cI, 512, .inl (upd gb1 (128 * ca + k) (-1)))), (q 12, .inl (cZ, 512, .inl gd1)), (q 15, .inl (cZ, 512, .inl gp1))] := hD
        refine lv_aload_n hx hb kd_M_empty_22 rfl (lv_at hl 0 rfl) ?_
        refine va_get (D := (dC, dI)) (ci := 3) (v := .ref (q 12)) (C := zk_RM) (T := zk_TM) (N := 22) hx hb hts kl_M hown hK hP 0 rfl rfl 13 (by decide) (hts _ kj_359) (fun _ h9 => h9) rfl kd_M_empty_23 ?_
        refine lv_sipush (v := nI 128) hx hb kd_M_empty_26 (by decide) ?_
        refine lv_iload_n hx hb kd_M_empty_29 rfl (lv_at hl 1 rfl) ?_
        refine lv_imul hx hb kd_M_empty_30 ?_
        refine zz_top (y := nI (128 * ca)) (pk_mul _ _) ?_
        refine lv_iload_n hx hb kd_M_empty_31 rfl (lv_at hl 2 rfl) ?_
        refine lv_iadd hx hb kd_M_empty_32 ?_
        refine zz_top (y := nI (128 * ca + k)) (nI_add _ _) ?_
        refine lv_iconst (v := nI 0) hx hb kd_M_empty_33 (by decide) ?_
        refine zz_zast hx hb hK hP hD hS 2 1 rfl rfl (k := 128 * ca + k) (by omega) (by decide) (Or.inl rfl) kd_M_empty_34 (fun H locs hP hD hS => ?_)
        have hP : va_P (dC, dI) zk_cl [(q 0, zm_ob q th n lc kp), (q 11, .inl (cI, 512, .inl (upd gb1 (128 * ca + k) (-1)))), (q 12, .inl (cZ, 512, .inl (upd gd1 (128 * ca + k) (nI 0)))), (q 15, .inl (cZ, 512, .inl gp1))] H := hP
        have hD : va_D A [(q 0, zm_ob q th n lc kp), (q 11, .inl (cI, 512, .inl (upd gb1 (128 * ca + k) (-1)))), (q 12, .inl (cZ, 512, .inl (upd gd1 (128 * ca + k) (nI 0)))), (q 15, .inl (cZ, 512, .inl gp1))] := hD
        refine lv_aload_n hx hb kd_M_empty_35 rfl (lv_at hl 0 rfl) ?_
        refine va_get (D := (dC, dI)) (ci := 3) (v := .ref (q 15)) (C := zk_RM) (T := zk_TM) (N := 22) hx hb hts kl_M hown hK hP 0 rfl rfl 16 (by decide) (hts _ kj_362) (fun _ h9 => h9) rfl kd_M_empty_36 ?_
        refine lv_sipush (v := nI 128) hx hb kd_M_empty_39 (by decide) ?_
        refine lv_iload_n hx hb kd_M_empty_42 rfl (lv_at hl 1 rfl) ?_
        refine lv_imul hx hb kd_M_empty_43 ?_
        refine zz_top (y := nI (128 * ca)) (pk_mul _ _) ?_
        refine lv_iload_n hx hb kd_M_empty_44 rfl (lv_at hl 2 rfl) ?_
        refine lv_iadd hx hb kd_M_empty_45 ?_
        refine zz_top (y := nI (128 * ca + k)) (nI_add _ _) ?_
        refine lv_iconst (v := nI 0) hx hb kd_M_empty_46 (by decide) ?_
        refine zz_zast hx hb hK hP hD hS 3 1 rfl rfl (k := 128 * ca + k) (by omega) (by decide) (Or.inl rfl) kd_M_empty_47 (fun H locs hP hD hS => ?_)
        have hP : va_P (dC, dI) zk_cl [(q 0, zm_ob q th n lc kp), (q 11, .inl (cI, 512, .inl (upd gb1 (128 * ca + k) (-1)))), (q 12, .inl (cZ, 512, .inl (upd gd1 (128 * ca + k) (nI 0)))), (q 15, .inl (cZ, 512, .inl (upd gp1 (128 * ca + k) (nI 0))))] H := hP
        have hD : va_D A [(q 0, zm_ob q th n lc kp), (q 11, .inl (cI, 512, .inl (upd gb1 (128 * ca + k) (-1)))), (q 12, .inl (cZ, 512, .inl (upd gd1 (128 * ca + k) (nI 0)))), (q 15, .inl (cZ, 512, .inl (upd gp1 (128 * ca + k) (nI 0))))] := hD
        refine lv_iinc (v := nI (k + 1)) (lv' := [(2, .int (nI (k + 1))), (0, .ref (q 0)), (1, .int (nI ca))]) hx hb kd_M_empty_48 hl (k := 2) rfl (by first | exact nI_1 _ | (show _ + _ = _; exact nI_1 _)) (by decide) rfl (fun ls hl => ?_)
        refine lv_goto (tgt := 2) hx hb kd_M_empty_51 (by decide) ?_
        exact ih (k + 1) (upd gb1 (128 * ca + k) (-1)) (upd gd1 (128 * ca + k) (nI 0)) (upd gp1 (128 * ca + k) (nI 0)) (by omega) (by omega) (zu_Bs h1) (zu_Bs h2) (zu_Bs h3) _ _ hP hD hS ls (lv_sub hl [1, 2, 0] rfl)
  exact hc2 _ 0 gb gd gp (Nat.lt_succ_self _) (by omega) (zu_B0) (zu_B0) (zu_B0) _ _ hP hD hS ls (lv_sub hl [1, 2, 0] rfl)

def rm_cm_placeOf : Room := { frames := 0, cells := 0, slots := 0, locals := 0 }
set_option maxHeartbeats 4000000 in
set_option maxRecDepth 100000 in
/-- the first place that holds the block -/
theorem cm_placeOf (l : Launch) (dC : Nat → ClassId) (dI : Nat → Nat → Nat) (cI cZ cO cL : ClassId) (q : Nat → Nat) (th : Nat) (n : Nat) (lc : Nat) (kp : Nat) (gw : Nat → Int32) (gb : Nat → Int32) (ca : Nat) (ao : Nat) (wa : Nat) (x : Int32) (hc : ca < 4) (hw : gw ca = nI wa) (hw8 : wa ≤ 8) (hat : ao + 8 ≤ 512) : zz_Mi l ky_M_placeOf kw_M_placeOf rm_cm_placeOf (dC, dI) (zz_ty cI cZ cO cL) [(q 0, zm_ob q th n lc kp), (q 4, .inl (cI, 4, .inl gw)), (q 11, .inl (cI, 512, .inl gb))] [.ref (q 0), .int (nI ca), .int (nI ao), .int x] (fun (r : Int32) (w : va_W) => w = [(q 0, zm_ob q th n lc kp), (q 4, .inl (cI, 4, .inl gw)), (q 11, .inl (cI, 512, .inl gb))] ∧ (zf_FP (fun k => gb (ao + k)) wa x r)) 0 0 := by
  refine zz_entry_i (cc := kb_M_placeOf) (maxL := 6) (own := zk_RM) (by decide) rfl rfl (Nat.le_of_ble_eq_true rfl) ?_
  intro p e s m args below meth c Q hx hb hml hown hts hin hP hK A hD hA hS hret ls hl
  have hl : lv_has ls 6 [(0, .ref (q 0)), (1, .int (nI ca)), (2, .int (nI ao)), (3, .int x)] := hl
  obtain ⟨H, eH⟩ : ∃ z, z = s.heap := ⟨_, rfl⟩
  obtain ⟨locs, eL⟩ : ∃ z : List Loc, z = [] := ⟨_, rfl⟩
  rw [← eH] at hP ⊢
  have hS : va_S A s.heap H locs := by rw [eH, eL]; exact hS
  rw [← eL]
  refine lv_iconst (v := (-1)) hx hb kd_M_placeOf_0 (by decide) ?_
  refine lv_istore (lv' := [(4, .int (-1)), (0, .ref (q 0)), (1, .int (nI ca)), (2, .int (nI ao)), (3, .int x)]) hx hb kd_M_placeOf_1 hl (by decide) rfl (fun ls hl => ?_)
  refine lv_aload_n hx hb kd_M_placeOf_3 rfl (lv_at hl 1 rfl) ?_
  refine va_get (D := (dC, dI)) (ci := 3) (v := .ref (q 4)) (C := zk_RM) (T := zk_TM) (N := 22) hx hb hts kl_M hown hK hP 0 rfl rfl 5 (by decide) (hts _ kj_351) (fun _ h9 => h9) rfl kd_M_placeOf_4 ?_
  refine lv_iload_n hx hb kd_M_placeOf_7 rfl (lv_at hl 2 rfl) ?_
  refine zz_iald hx hb hK hP 1 0 rfl rfl (k := ca) (by omega) (by decide) kd_M_placeOf_8 ?_
  refine zz_top (y := nI wa) (hw) ?_
  refine lv_iconst (v := nI 1) hx hb kd_M_placeOf_9 (by decide) ?_
  refine lv_isub hx hb kd_M_placeOf_10 ?_
  refine zz_top (y := nI wa - nI 1) (rfl) ?_
  refine lv_istore (lv' := [(5, .int (nI wa - nI 1)), (4, .int (-1)), (0, .ref (q 0)), (1, .int (nI ca)), (2, .int (nI ao)), (3, .int x)]) hx hb kd_M_placeOf_11 hl (by decide) rfl (fun ls hl => ?_)
  have hc13 : ∀ (nn : Nat), ∀ (k : Nat) (f : Int32), k < nn → (k ≤ wa) → (zf_FR (fun k => gb (ao + k)) k wa x f) → ∀ (H : Heap) (locs : List Loc), va_P (dC, dI) zk_cl [(q 0, zm_ob q th n lc kp), (q 4, .inl (cI, 4, .inl gw)), (q 11, .inl (cI, 512, .inl gb))] H → va_D A [(q 0, zm_ob q th n lc kp), (q 4, .inl (cI, 4, .inl gw)), (q 11, .inl (cI, 512, .inl gb))] → va_S A s.heap H locs → ∀ ls : Array Slot, lv_has ls 6 [(0, .ref (q 0)), (2, .int (nI ao)), (3, .int x), (4, .int f), (5, .int (nI k - nI 1))] → W p l e rm_cm_placeOf s m args below meth c H locs 0 0 Q (F0 m 13 ls []) := by
    intro nn
    induction nn with
    | zero => intro k f hm; exact absurd hm (Nat.not_lt_zero _)
    | succ nn ih =>
      intro k f hm hk hf H locs hP hD hS ls hl
      refine lv_iload hx hb kd_M_placeOf_13 (lv_at hl 4 rfl) ?_
      refine lv_if_lt (tgt := 46) hx hb kd_M_placeOf_15 (by decide) (fun c15 => ?_) (fun c15 => ?_)
      · skip
        have hk0 := zn_k1 (by omega) c15
        refine lv_iload hx hb kd_M_placeOf_46 (lv_at hl 3 rfl) ?_
        exact hret _ _ _ _ _ _ kd_M_placeOf_48 hP hD hS (⟨rfl, (zf_FR_P (hk0 ▸ hf))⟩)
      · skip
        have hk0 := zn_k0 c15
        rw [pk_sub hk0] at hl
        refine lv_aload_n hx hb kd_M_placeOf_18 rfl (lv_at hl 0 rfl) ?_
        refine va_get (D := (dC, dI)) (ci := 3) (v := .ref (q 11)) (C := zk_RM) (T := zk_TM) (N := 22) hx hb hts kl_M hown hK hP 0 rfl rfl 12 (by decide) (hts _ kj_358) (fun _ h9 => h9) rfl kd_M_placeOf_19 ?_
        refine lv_iload_n hx hb kd_M_placeOf_22 rfl (lv_at hl 1 rfl) ?_
        refine lv_iload hx hb kd_M_placeOf_23 (lv_at hl 4 rfl) ?_
        refine lv_iadd hx hb kd_M_placeOf_25 ?_
        refine zz_top (y := nI (ao + (k - 1))) (nI_add _ _) ?_
        refine zz_iald hx hb hK hP 2 0 rfl rfl (k := ao + (k - 1)) (by omega) (by decide) kd_M_placeOf_26 ?_
        refine lv_iload_n hx hb kd_M_placeOf_27 rfl (lv_at hl 2 rfl) ?_
        refine lv_icmp_ne (tgt := 36) hx hb kd_M_placeOf_28 (by decide) (fun c28 => ?_) (fun c28 => ?_)
        · skip
          refine lv_iload hx hb kd_M_placeOf_36 (lv_at hl 3 rfl) ?_
          refine lv_istore (lv' := [(4, .int f), (0, .ref (q 0)), (2, .int (nI ao)), (3, .int x), (5, .int (nI (k - 1)))]) hx hb kd_M_placeOf_38 hl (by decide) rfl (fun ls hl => ?_)
          refine lv_iinc (v := nI (k - 1) - nI 1) (lv' := [(5, .int (nI (k - 1) - nI 1)), (4, .int f), (0, .ref (q 0)), (2, .int (nI ao)), (3, .int x)]) hx hb kd_M_placeOf_40 hl (k := 4) rfl (by first | exact zn_pm _ | (show _ + _ = _; exact zn_pm _)) (by decide) rfl (fun ls hl => ?_)
          refine lv_goto (tgt := 13) hx hb kd_M_placeOf_43 (by decide) ?_
          exact ih (k - 1) f (by omega) (by omega) (by first | exact zf_FR_t hk0 hk c28 | exact zf_FR_f hk0 c28 hf) _ _ hP hD hS ls (lv_sub hl [2, 3, 4, 1, 0] rfl)
        · skip
          refine lv_iload hx hb kd_M_placeOf_31 (lv_at hl 4 rfl) ?_
          refine lv_goto (tgt := 38) hx hb kd_M_placeOf_33 (by decide) ?_
          refine lv_istore (lv' := [(4, .int (nI (k - 1))), (0, .ref (q 0)), (2, .int (nI ao)), (3, .int x), (5, .int (nI (k - 1)))]) hx hb kd_M_placeOf_38 hl (by decide) rfl (fun ls hl => ?_)
          refine lv_iinc (v := nI (k - 1) - nI 1) (lv' := [(5, .int (nI (k - 1) - nI 1)), (4, .int (nI (k - 1))), (0, .ref (q 0)), (2, .int (nI ao)), (3, .int x)]) hx hb kd_M_placeOf_40 hl (k := 4) rfl (by first | exact zn_pm _ | (show _ + _ = _; exact zn_pm _)) (by decide) rfl (fun ls hl => ?_)
          refine lv_goto (tgt := 13) hx hb kd_M_placeOf_43 (by decide) ?_
          exact ih (k - 1) (nI (k - 1)) (by omega) (by omega) (by first | exact zf_FR_t hk0 hk c28 | exact zf_FR_f hk0 c28 hf) _ _ hP hD hS ls (lv_sub hl [2, 3, 4, 1, 0] rfl)
  exact hc13 _ wa (-1) (Nat.lt_succ_self _) (by omega) (zf_FR_0) _ _ hP hD hS ls (lv_sub hl [2, 4, 5, 1, 0] rfl)

def rm_cm_pointed : Room := { frames := 0, cells := 0, slots := 0, locals := 0 }
set_option maxHeartbeats 4000000 in
set_option maxRecDepth 100000 in
/-- the place to which one is pointed -/
theorem cm_pointed (l : Launch) (dC : Nat → ClassId) (dI : Nat → Nat → Nat) (cI cZ cO cL : ClassId) (q : Nat → Nat) (th : Nat) (n : Nat) (lc : Nat) (kp : Nat) (gw : Nat → Int32) (gp : Nat → Int32) (ca : Nat) (ao : Nat) (wa : Nat) (hc : ca < 4) (hw : gw ca = nI wa) (hw8 : wa ≤ 8) (hat : ao + 8 ≤ 512) : zz_Mi l ky_M_pointed kw_M_pointed rm_cm_pointed (dC, dI) (zz_ty cI cZ cO cL) [(q 0, zm_ob q th n lc kp), (q 4, .inl (cI, 4, .inl gw)), (q 15, .inl (cZ, 512, .inl gp))] [.ref (q 0), .int (nI ca), .int (nI ao)] (fun (r : Int32) (w : va_W) => w = [(q 0, zm_ob q th n lc kp), (q 4, .inl (cI, 4, .inl gw)), (q 15, .inl (cZ, 512, .inl gp))] ∧ (r = nI (zt_pt (zm_tb gp ao) 4 (wa / 2) 1 0))) 0 0 := by
  refine zz_entry_i (cc := kb_M_pointed) (maxL := 7) (own := zk_RM) (by decide) rfl rfl (Nat.le_of_ble_eq_true rfl) ?_
  intro p e s m args below meth c Q hx hb hml hown hts hin hP hK A hD hA hS hret ls hl
  have hl : lv_has ls 7 [(0, .ref (q 0)), (1, .int (nI ca)), (2, .int (nI ao))] := hl
  obtain ⟨H, eH⟩ : ∃ z, z = s.heap := ⟨_, rfl⟩
  obtain ⟨locs, eL⟩ : ∃ z : List Loc, z = [] := ⟨_, rfl⟩
  rw [← eH] at hP ⊢
  have hS : va_S A s.heap H locs := by rw [eH, eL]; exact hS
  rw [← eL]
  refine lv_iconst (v := nI 1) hx hb kd_M_pointed_0 (by decide) ?_
  refine lv_istore_n (lv' := [(3, .int (nI 1)), (0, .ref (q 0)), (1, .int (nI ca)), (2, .int (nI ao))]) hx hb kd_M_pointed_1 rfl hl (by decide) rfl (fun ls hl => ?_)
  refine lv_iconst (v := nI 0) hx hb kd_M_pointed_2 (by decide) ?_
  refine lv_istore (lv' := [(4, .int (nI 0)), (3, .int (nI 1)), (0, .ref (q 0)), (1, .int (nI ca)), (2, .int (nI ao))]) hx hb kd_M_pointed_3 hl (by decide) rfl (fun ls hl => ?_)
  refine lv_aload_n hx hb kd_M_pointed_5 rfl (lv_at hl 2 rfl) ?_
  refine va_get (D := (dC, dI)) (ci := 3) (v := .ref (q 4)) (C := zk_RM) (T := zk_TM) (N := 22) hx hb hts kl_M hown hK hP 0 rfl rfl 5 (by decide) (hts _ kj_351) (fun _ h9 => h9) rfl kd_M_pointed_6 ?_
  refine lv_iload_n hx hb kd_M_pointed_9 rfl (lv_at hl 3 rfl) ?_
  refine zz_iald hx hb hK hP 1 0 rfl rfl (k := ca) (by omega) (by decide) kd_M_pointed_10 ?_
  refine zz_top (y := nI wa) (hw) ?_
  refine lv_iconst (v := nI 2) hx hb kd_M_pointed_11 (by decide) ?_
  refine lv_idiv hx hb kd_M_pointed_12 (by first | decide | exact nI_ne0 (by omega) (by omega)) ?_
  refine zz_top (y := nI (wa / 2)) (pk_div (by omega) (by omega) (by omega)) ?_
  refine lv_istore (lv' := [(5, .int (nI (wa / 2))), (4, .int (nI 0)), (3, .int (nI 1)), (0, .ref (q 0)), (1, .int (nI ca)), (2, .int (nI ao))]) hx hb kd_M_pointed_13 hl (by decide) rfl (fun ls hl => ?_)
  have hc15 : ∀ (nn : Nat), ∀ (half : Nat) (node : Nat) (fr : Nat) (fl : Nat), half < nn → (zt_pt (zm_tb gp ao) 4 (wa / 2) 1 0 = zt_pt (zm_tb gp ao) fl half node fr) → (half < 2 ^ fl) → (zt_ok half node) → ∀ (H : Heap) (locs : List Loc), va_P (dC, dI) zk_cl [(q 0, zm_ob q th n lc kp), (q 4, .inl (cI, 4, .inl gw)), (q 15, .inl (cZ, 512, .inl gp))] H → va_D A [(q 0, zm_ob q th n lc kp), (q 4, .inl (cI, 4, .inl gw)), (q 15, .inl (cZ, 512, .inl gp))] → va_S A s.heap H locs → ∀ ls : Array Slot, lv_has ls 7 [(0, .ref (q 0)), (2, .int (nI ao)), (3, .int (nI node)), (4, .int (nI fr)), (5, .int (nI half))] → W p l e rm_cm_pointed s m args below meth c H locs 0 0 Q (F0 m 15 ls []) := by
    intro nn
    induction nn with
    | zero => intro half node fr fl hm; exact absurd hm (Nat.not_lt_zero _)
    | succ nn ih =>
      intro half node fr fl hm heq hf hok H locs hP hD hS ls hl
      have hl4 := zt_ok_l hok
      refine lv_iload hx hb kd_M_pointed_15 (lv_at hl 4 rfl) ?_
      refine zz_if_le (tgt := 73) hx hb kd_M_pointed_17 (by decide) (by omega) (fun c17 => ?_) (fun c17 => ?_)
      · skip
        refine lv_iload hx hb kd_M_pointed_73 (lv_at hl 3 rfl) ?_
        exact hret _ _ _ _ _ _ kd_M_pointed_75 hP hD hS (⟨rfl, by rw [heq, c17, zt_pt_0]⟩)
      · skip
        refine lv_aload_n hx hb kd_M_pointed_20 rfl (lv_at hl 0 rfl) ?_
        refine va_get (D := (dC, dI)) (ci := 3) (v := .ref (q 15)) (C := zk_RM) (T := zk_TM) (N := 22) hx hb hts kl_M hown hK hP 0 rfl rfl 16 (by decide) (hts _ kj_362) (fun _ h9 => h9) rfl kd_M_pointed_21 ?_
        refine lv_iload_n hx hb kd_M_pointed_24 rfl (lv_at hl 1 rfl) ?_
        refine lv_iload_n hx hb kd_M_pointed_25 rfl (lv_at hl 2 rfl) ?_
        refine lv_iadd hx hb kd_M_pointed_26 ?_
        refine zz_top (y := nI (ao + node)) (nI_add _ _) ?_
        refine zz_zald hx hb hK hP 2 1 rfl rfl (k := ao + node) (by have := (zt_ok_8 hok c17).1; omega) (by decide) kd_M_pointed_27 ?_
        refine lv_istore (lv' := [(6, .int (gp (ao + node))), (0, .ref (q 0)), (2, .int (nI ao)), (3, .int (nI node)), (4, .int (nI fr)), (5, .int (nI half))]) hx hb kd_M_pointed_28 hl (by decide) rfl (fun ls hl => ?_)
        refine lv_iload hx hb kd_M_pointed_30 (lv_at hl 0 rfl) ?_
        refine lv_if_eq (tgt := 43) hx hb kd_M_pointed_32 (by decide) (fun c32 => ?_) (fun c32 => ?_)
        · skip
          refine lv_iload hx hb kd_M_pointed_43 (lv_at hl 4 rfl) ?_
          refine lv_istore (lv' := [(4, .int (nI fr)), (6, .int (gp (ao + node))), (0, .ref (q 0)), (2, .int (nI ao)), (3, .int (nI node)), (5, .int (nI half))]) hx hb kd_M_pointed_45 hl (by decide) rfl (fun ls hl => ?_)
          refine lv_iload hx hb kd_M_pointed_47 (lv_at hl 1 rfl) ?_
          refine lv_if_eq (tgt := 60) hx hb kd_M_pointed_49 (by decide) (fun c49 => ?_) (fun c49 => ?_)
          · skip
            refine lv_iconst (v := nI 2) hx hb kd_M_pointed_60 (by decide) ?_
            refine lv_iload_n hx hb kd_M_pointed_61 rfl (lv_at hl 4 rfl) ?_
            refine lv_imul hx hb kd_M_pointed_62 ?_
            refine zz_top (y := nI (2 * node)) (pk_mul _ _) ?_
            refine lv_istore_n (lv' := [(3, .int (nI (2 * node))), (4, .int (nI fr)), (6, .int (gp (ao + node))), (0, .ref (q 0)), (2, .int (nI ao)), (5, .int (nI half))]) hx hb kd_M_pointed_63 rfl hl (by decide) rfl (fun ls hl => ?_)
            refine lv_iload hx hb kd_M_pointed_64 (lv_at hl 5 rfl) ?_
            refine lv_iconst (v := nI 2) hx hb kd_M_pointed_66 (by decide) ?_
            refine lv_idiv hx hb kd_M_pointed_67 (by first | decide | exact nI_ne0 (by omega) (by omega)) ?_
            refine zz_top (y := nI (half / 2)) (pk_div (by omega) (by omega) (by omega)) ?_
            refine lv_istore (lv' := [(5, .int (nI (half / 2))), (3, .int (nI (2 * node))), (4, .int (nI fr)), (6, .int (gp (ao + node))), (0, .ref (q 0)), (2, .int (nI ao))]) hx hb kd_M_pointed_68 hl (by decide) rfl (fun ls hl => ?_)
            refine lv_goto (tgt := 15) hx hb kd_M_pointed_70 (by decide) ?_
            exact ih (half / 2) (2 * node) fr (fl - 1) (by omega) (by first | exact heq.trans (zt_pt_t c17 hf (by simp [zm_tb, c32])) | exact heq.trans (zt_pt_f c17 hf (by simp [zm_tb, c32]))) (zt_hf c17 hf) (by first | exact zt_ok_n (b := 1) hok c17 (by omega) | exact zt_ok_n (b := 0) hok c17 (by omega)) _ _ hP hD hS ls (lv_sub hl [4, 5, 1, 2, 0] rfl)
          · skip
            exact absurd c49 (fun z => z c32)
        · skip
          refine lv_iload hx hb kd_M_pointed_35 (lv_at hl 4 rfl) ?_
          refine lv_iload hx hb kd_M_pointed_37 (lv_at hl 5 rfl) ?_
          refine lv_iadd hx hb kd_M_pointed_39 ?_
          refine zz_top (y := nI (fr + half)) (nI_add _ _) ?_
          refine lv_goto (tgt := 45) hx hb kd_M_pointed_40 (by decide) ?_
          refine lv_istore (lv' := [(4, .int (nI (fr + half))), (6, .int (gp (ao + node))), (0, .ref (q 0)), (2, .int (nI ao)), (3, .int (nI node)), (5, .int (nI half))]) hx hb kd_M_pointed_45 hl (by decide) rfl (fun ls hl => ?_)
          refine lv_iload hx hb kd_M_pointed_47 (lv_at hl 1 rfl) ?_
          refine lv_if_eq (tgt := 60) hx hb kd_M_pointed_49 (by decide) (fun c49 => ?_) (fun c49 => ?_)
          · skip
            exact absurd c49 (c32)
          · skip
            refine lv_iconst (v := nI 2) hx hb kd_M_pointed_52 (by decide) ?_
            refine lv_iload_n hx hb kd_M_pointed_53 rfl (lv_at hl 4 rfl) ?_
            refine lv_imul hx hb kd_M_pointed_54 ?_
            refine zz_top (y := nI (2 * node)) (pk_mul _ _) ?_
            refine lv_iconst (v := nI 1) hx hb kd_M_pointed_55 (by decide) ?_
            refine lv_iadd hx hb kd_M_pointed_56 ?_
            refine zz_top (y := nI (2 * node + 1)) (nI_add _ _) ?_
            refine lv_goto (tgt := 63) hx hb kd_M_pointed_57 (by decide) ?_
            refine lv_istore_n (lv' := [(3, .int (nI (2 * node + 1))), (4, .int (nI (fr + half))), (6, .int (gp (ao + node))), (0, .ref (q 0)), (2, .int (nI ao)), (5, .int (nI half))]) hx hb kd_M_pointed_63 rfl hl (by decide) rfl (fun ls hl => ?_)
            refine lv_iload hx hb kd_M_pointed_64 (lv_at hl 5 rfl) ?_
            refine lv_iconst (v := nI 2) hx hb kd_M_pointed_66 (by decide) ?_
            refine lv_idiv hx hb kd_M_pointed_67 (by first | decide | exact nI_ne0 (by omega) (by omega)) ?_
            refine zz_top (y := nI (half / 2)) (pk_div (by omega) (by omega) (by omega)) ?_
            refine lv_istore (lv' := [(5, .int (nI (half / 2))), (3, .int (nI (2 * node + 1))), (4, .int (nI (fr + half))), (6, .int (gp (ao + node))), (0, .ref (q 0)), (2, .int (nI ao))]) hx hb kd_M_pointed_68 hl (by decide) rfl (fun ls hl => ?_)
            refine lv_goto (tgt := 15) hx hb kd_M_pointed_70 (by decide) ?_
            exact ih (half / 2) (2 * node + 1) (fr + half) (fl - 1) (by omega) (by first | exact heq.trans (zt_pt_t c17 hf (by simp [zm_tb, c32])) | exact heq.trans (zt_pt_f c17 hf (by simp [zm_tb, c32]))) (zt_hf c17 hf) (by first | exact zt_ok_n (b := 1) hok c17 (by omega) | exact zt_ok_n (b := 0) hok c17 (by omega)) _ _ hP hD hS ls (lv_sub hl [4, 5, 1, 2, 0] rfl)
  exact hc15 _ (wa / 2) 1 0 4 (Nat.lt_succ_self _) (rfl) (by omega) (by unfold zt_ok; omega) _ _ hP hD hS ls (lv_sub hl [3, 5, 2, 1, 0] rfl)

def rm_cm_turn : Room := { frames := 0, cells := 0, slots := 0, locals := 0 }
set_option maxHeartbeats 4000000 in
set_option maxRecDepth 100000 in
/-- the tree points away from the place -/
theorem cm_turn (l : Launch) (dC : Nat → ClassId) (dI : Nat → Nat → Nat) (cI cZ cO cL : ClassId) (q : Nat → Nat) (th : Nat) (n : Nat) (lc : Nat) (kp : Nat) (gw : Nat → Int32) (gp : Nat → Int32) (ca : Nat) (ao : Nat) (pl : Nat) (wa : Nat) (hc : ca < 4) (hw : gw ca = nI wa) (hw8 : wa ≤ 8) (hat : ao + 8 ≤ 512) (hpl : pl < 8) : zz_Mv l ky_M_turn kw_M_turn rm_cm_turn (dC, dI) (zz_ty cI cZ cO cL) [(q 0, zm_ob q th n lc kp), (q 4, .inl (cI, 4, .inl gw)), (q 15, .inl (cZ, 512, .inl gp))] [.ref (q 0), .int (nI ca), .int (nI ao), .int (nI pl)] (fun (w : va_W) => ∃ (gp2 : Nat → Int32), w = [(q 0, zm_ob q th n lc kp), (q 4, .inl (cI, 4, .inl gw)), (q 15, .inl (cZ, 512, .inl gp2))] ∧ (zm_tb gp2 ao = zt_mt pl 4 (wa / 2) 1 0 (zm_tb gp ao)) ∧ (∀ j, (j < ao ∨ ao + 8 ≤ j) → gp2 j = gp j)) 0 0 := by
  refine zz_entry_v (cc := kb_M_turn) (maxL := 8) (own := zk_RM) (by decide) rfl rfl (Nat.le_of_ble_eq_true rfl) ?_
  intro p e s m args below meth c Q hx hb hml hown hts hin hP hK A hD hA hS hret ls hl
  have hl : lv_has ls 8 [(0, .ref (q 0)), (1, .int (nI ca)), (2, .int (nI ao)), (3, .int (nI pl))] := hl
  obtain ⟨H, eH⟩ : ∃ z, z = s.heap := ⟨_, rfl⟩
  obtain ⟨locs, eL⟩ : ∃ z : List Loc, z = [] := ⟨_, rfl⟩
  rw [← eH] at hP ⊢
  have hS : va_S A s.heap H locs := by rw [eH, eL]; exact hS
  rw [← eL]
  refine lv_iconst (v := nI 1) hx hb kd_M_turn_0 (by decide) ?_
  refine lv_istore (lv' := [(4, .int (nI 1)), (0, .ref (q 0)), (1, .int (nI ca)), (2, .int (nI ao)), (3, .int (nI pl))]) hx hb kd_M_turn_1 hl (by decide) rfl (fun ls hl => ?_)
  refine lv_iconst (v := nI 0) hx hb kd_M_turn_3 (by decide) ?_
  refine lv_istore (lv' := [(5, .int (nI 0)), (4, .int (nI 1)), (0, .ref (q 0)), (1, .int (nI ca)), (2, .int (nI ao)), (3, .int (nI pl))]) hx hb kd_M_turn_4 hl (by decide) rfl (fun ls hl => ?_)
  refine lv_aload_n hx hb kd_M_turn_6 rfl (lv_at hl 2 rfl) ?_
  refine va_get (D := (dC, dI)) (ci := 3) (v := .ref (q 4)) (C := zk_RM) (T := zk_TM) (N := 22) hx hb hts kl_M hown hK hP 0 rfl rfl 5 (by decide) (hts _ kj_351) (fun _ h9 => h9) rfl kd_M_turn_7 ?_
  refine lv_iload_n hx hb kd_M_turn_10 rfl (lv_at hl 3 rfl) ?_
  refine zz_iald hx hb hK hP 1 0 rfl rfl (k := ca) (by omega) (by decide) kd_M_turn_11 ?_
  refine zz_top (y := nI wa) (hw) ?_
  refine lv_iconst (v := nI 2) hx hb kd_M_turn_12 (by decide) ?_
  refine lv_idiv hx hb kd_M_turn_13 (by first | decide | exact nI_ne0 (by omega) (by omega)) ?_
  refine zz_top (y := nI (wa / 2)) (pk_div (by omega) (by omega) (by omega)) ?_
  refine lv_istore (lv' := [(6, .int (nI (wa / 2))), (5, .int (nI 0)), (4, .int (nI 1)), (0, .ref (q 0)), (1, .int (nI ca)), (2, .int (nI ao)), (3, .int (nI pl))]) hx hb kd_M_turn_14 hl (by decide) rfl (fun ls hl => ?_)
  have hc16 : ∀ (nn : Nat), ∀ (half : Nat) (node : Nat) (fr : Nat) (fl : Nat) (gp1 : Nat → Int32), half < nn → (zt_mt pl 4 (wa / 2) 1 0 (zm_tb gp ao) = zt_mt pl fl half node fr (zm_tb gp1 ao)) → (half < 2 ^ fl) → (zt_ok half node) → (fr ≤ pl) → (∀ j, (j < ao ∨ ao + 8 ≤ j) → gp1 j = gp j) → ∀ (H : Heap) (locs : List Loc), va_P (dC, dI) zk_cl [(q 0, zm_ob q th n lc kp), (q 4, .inl (cI, 4, .inl gw)), (q 15, .inl (cZ, 512, .inl gp1))] H → va_D A [(q 0, zm_ob q th n lc kp), (q 4, .inl (cI, 4, .inl gw)), (q 15, .inl (cZ, 512, .inl gp1))] → va_S A s.heap H locs → ∀ ls : Array Slot, lv_has ls 8 [(0, .ref (q 0)), (2, .int (nI ao)), (3, .int (nI pl)), (4, .int (nI node)), (5, .int (nI fr)), (6, .int (nI half))] → W p l e rm_cm_turn s m args below meth c H locs 0 0 Q (F0 m 16 ls []) := by
    intro nn
    induction nn with
    | zero => intro half node fr fl gp1 hm; exact absurd hm (Nat.not_lt_zero _)
    | succ nn ih =>
      intro half node fr fl gp1 hm heq hf hok hfr hg H locs hP hD hS ls hl
      have hl4 := zt_ok_l hok
      refine lv_iload hx hb kd_M_turn_16 (lv_at hl 5 rfl) ?_
      refine zz_if_le (tgt := 102) hx hb kd_M_turn_18 (by decide) (by omega) (fun c18 => ?_) (fun c18 => ?_)
      · skip
        exact hret _ _ _ _ _ kd_M_turn_102 hP hD hS (⟨gp1, rfl, (by rw [heq, c18, zt_mt_0]), (hg)⟩)
      · skip
        refine lv_iload_n hx hb kd_M_turn_21 rfl (lv_at hl 2 rfl) ?_
        refine lv_iload hx hb kd_M_turn_22 (lv_at hl 4 rfl) ?_
        refine lv_iload hx hb kd_M_turn_24 (lv_at hl 5 rfl) ?_
        refine lv_iadd hx hb kd_M_turn_26 ?_
        refine zz_top (y := nI (fr + half)) (nI_add _ _) ?_
        refine zz_icmp_lt (tgt := 34) hx hb kd_M_turn_27 (by decide) (by omega) (by omega) (fun c27 => ?_) (fun c27 => ?_)
        · skip
          refine lv_iconst (v := nI 0) hx hb kd_M_turn_34 (by decide) ?_
          refine lv_istore (lv' := [(7, .int (nI 0)), (0, .ref (q 0)), (2, .int (nI ao)), (3, .int (nI pl)), (4, .int (nI node)), (5, .int (nI fr)), (6, .int (nI half))]) hx hb kd_M_turn_35 hl (by decide) rfl (fun ls hl => ?_)
          refine lv_aload_n hx hb kd_M_turn_37 rfl (lv_at hl 1 rfl) ?_
          refine va_get (D := (dC, dI)) (ci := 3) (v := .ref (q 15)) (C := zk_RM) (T := zk_TM) (N := 22) hx hb hts kl_M hown hK hP 0 rfl rfl 16 (by decide) (hts _ kj_362) (fun _ h9 => h9) rfl kd_M_turn_38 ?_
          refine lv_iload_n hx hb kd_M_turn_41 rfl (lv_at hl 2 rfl) ?_
          refine lv_iload hx hb kd_M_turn_42 (lv_at hl 4 rfl) ?_
          refine lv_iadd hx hb kd_M_turn_44 ?_
          refine zz_top (y := nI (ao + node)) (nI_add _ _) ?_
          refine lv_iload hx hb kd_M_turn_45 (lv_at hl 0 rfl) ?_
          refine zz_if_ne (tgt := 54) hx hb kd_M_turn_47 (by decide) (by decide) (fun c9 => absurd c9 (by decide)) (fun _ => ?_)
          refine lv_iconst (v := nI 1) hx hb kd_M_turn_50 (by decide) ?_
          refine lv_goto (tgt := 55) hx hb kd_M_turn_51 (by decide) ?_
          refine zz_zast hx hb hK hP hD hS 2 1 rfl rfl (k := ao + node) (by have := (zt_ok_8 hok c18).1; omega) (by decide) (Or.inr rfl) kd_M_turn_55 (fun H locs hP hD hS => ?_)
          have hP : va_P (dC, dI) zk_cl [(q 0, zm_ob q th n lc kp), (q 4, .inl (cI, 4, .inl gw)), (q 15, .inl (cZ, 512, .inl (upd gp1 (ao + node) (nI 1))))] H := hP
          have hD : va_D A [(q 0, zm_ob q th n lc kp), (q 4, .inl (cI, 4, .inl gw)), (q 15, .inl (cZ, 512, .inl (upd gp1 (ao + node) (nI 1))))] := hD
          refine lv_iload hx hb kd_M_turn_56 (lv_at hl 0 rfl) ?_
          refine zz_if_eq (tgt := 69) hx hb kd_M_turn_58 (by decide) (by decide) (fun _ => ?_) (fun c9 => absurd c9 (by decide))
          refine lv_iload hx hb kd_M_turn_69 (lv_at hl 5 rfl) ?_
          refine lv_istore (lv' := [(5, .int (nI fr)), (7, .int (nI 0)), (0, .ref (q 0)), (2, .int (nI ao)), (3, .int (nI pl)), (4, .int (nI node)), (6, .int (nI half))]) hx hb kd_M_turn_71 hl (by decide) rfl (fun ls hl => ?_)
          refine lv_iload hx hb kd_M_turn_73 (lv_at hl 1 rfl) ?_
          refine zz_if_eq (tgt := 87) hx hb kd_M_turn_75 (by decide) (by decide) (fun _ => ?_) (fun c9 => absurd c9 (by decide))
          refine lv_iconst (v := nI 2) hx hb kd_M_turn_87 (by decide) ?_
          refine lv_iload hx hb kd_M_turn_88 (lv_at hl 5 rfl) ?_
          refine lv_imul hx hb kd_M_turn_90 ?_
          refine zz_top (y := nI (2 * node)) (pk_mul _ _) ?_
          refine lv_istore (lv' := [(4, .int (nI (2 * node))), (5, .int (nI fr)), (7, .int (nI 0)), (0, .ref (q 0)), (2, .int (nI ao)), (3, .int (nI pl)), (6, .int (nI half))]) hx hb kd_M_turn_91 hl (by decide) rfl (fun ls hl => ?_)
          refine lv_iload hx hb kd_M_turn_93 (lv_at hl 6 rfl) ?_
          refine lv_iconst (v := nI 2) hx hb kd_M_turn_95 (by decide) ?_
          refine lv_idiv hx hb kd_M_turn_96 (by first | decide | exact nI_ne0 (by omega) (by omega)) ?_
          refine zz_top (y := nI (half / 2)) (pk_div (by omega) (by omega) (by omega)) ?_
          refine lv_istore (lv' := [(6, .int (nI (half / 2))), (4, .int (nI (2 * node))), (5, .int (nI fr)), (7, .int (nI 0)), (0, .ref (q 0)), (2, .int (nI ao)), (3, .int (nI pl))]) hx hb kd_M_turn_97 hl (by decide) rfl (fun ls hl => ?_)
          refine lv_goto (tgt := 16) hx hb kd_M_turn_99 (by decide) ?_
          exact ih (half / 2) (2 * node) fr (fl - 1) (upd gp1 (ao + node) (nI 1)) (by omega) (by first | (rw [zm_tb0]; exact heq.trans (zt_mt_t c18 hf c27)) | (rw [zm_tb1]; exact heq.trans (zt_mt_f c18 hf (by omega)))) (zt_hf c18 hf) (by first | exact zt_ok_n (b := 1) hok c18 (by omega) | exact zt_ok_n (b := 0) hok c18 (by omega)) (by omega) (fun j hj => by have := (zt_ok_8 hok c18).1; rw [pk_un (by omega)]; exact hg j hj) _ _ hP hD hS ls (lv_sub hl [4, 5, 6, 1, 2, 0] rfl)
        · skip
          refine lv_iconst (v := nI 1) hx hb kd_M_turn_30 (by decide) ?_
          refine lv_goto (tgt := 35) hx hb kd_M_turn_31 (by decide) ?_
          refine lv_istore (lv' := [(7, .int (nI 1)), (0, .ref (q 0)), (2, .int (nI ao)), (3, .int (nI pl)), (4, .int (nI node)), (5, .int (nI fr)), (6, .int (nI half))]) hx hb kd_M_turn_35 hl (by decide) rfl (fun ls hl => ?_)
          refine lv_aload_n hx hb kd_M_turn_37 rfl (lv_at hl 1 rfl) ?_
          refine va_get (D := (dC, dI)) (ci := 3) (v := .ref (q 15)) (C := zk_RM) (T := zk_TM) (N := 22) hx hb hts kl_M hown hK hP 0 rfl rfl 16 (by decide) (hts _ kj_362) (fun _ h9 => h9) rfl kd_M_turn_38 ?_
          refine lv_iload_n hx hb kd_M_turn_41 rfl (lv_at hl 2 rfl) ?_
          refine lv_iload hx hb kd_M_turn_42 (lv_at hl 4 rfl) ?_
          refine lv_iadd hx hb kd_M_turn_44 ?_
          refine zz_top (y := nI (ao + node)) (nI_add _ _) ?_
          refine lv_iload hx hb kd_M_turn_45 (lv_at hl 0 rfl) ?_
          refine zz_if_ne (tgt := 54) hx hb kd_M_turn_47 (by decide) (by decide) (fun _ => ?_) (fun c9 => absurd c9 (by decide))
          refine lv_iconst (v := nI 0) hx hb kd_M_turn_54 (by decide) ?_
          refine zz_zast hx hb hK hP hD hS 2 1 rfl rfl (k := ao + node) (by have := (zt_ok_8 hok c18).1; omega) (by decide) (Or.inl rfl) kd_M_turn_55 (fun H locs hP hD hS => ?_)
          have hP : va_P (dC, dI) zk_cl [(q 0, zm_ob q th n lc kp), (q 4, .inl (cI, 4, .inl gw)), (q 15, .inl (cZ, 512, .inl (upd gp1 (ao + node) (nI 0))))] H := hP
          have hD : va_D A [(q 0, zm_ob q th n lc kp), (q 4, .inl (cI, 4, .inl gw)), (q 15, .inl (cZ, 512, .inl (upd gp1 (ao + node) (nI 0))))] := hD
          refine lv_iload hx hb kd_M_turn_56 (lv_at hl 0 rfl) ?_
          refine zz_if_eq (tgt := 69) hx hb kd_M_turn_58 (by decide) (by decide) (fun c9 => absurd c9 (by decide)) (fun _ => ?_)
          refine lv_iload hx hb kd_M_turn_61 (lv_at hl 5 rfl) ?_
          refine lv_iload hx hb kd_M_turn_63 (lv_at hl 6 rfl) ?_
          refine lv_iadd hx hb kd_M_turn_65 ?_
          refine zz_top (y := nI (fr + half)) (nI_add _ _) ?_
          refine lv_goto (tgt := 71) hx hb kd_M_turn_66 (by decide) ?_
          refine lv_istore (lv' := [(5, .int (nI (fr + half))), (7, .int (nI 1)), (0, .ref (q 0)), (2, .int (nI ao)), (3, .int (nI pl)), (4, .int (nI node)), (6, .int (nI half))]) hx hb kd_M_turn_71 hl (by decide) rfl (fun ls hl => ?_)
          refine lv_iload hx hb kd_M_turn_73 (lv_at hl 1 rfl) ?_
          refine zz_if_eq (tgt := 87) hx hb kd_M_turn_75 (by decide) (by decide) (fun c9 => absurd c9 (by decide)) (fun _ => ?_)
          refine lv_iconst (v := nI 2) hx hb kd_M_turn_78 (by decide) ?_
          refine lv_iload hx hb kd_M_turn_79 (lv_at hl 5 rfl) ?_
          refine lv_imul hx hb kd_M_turn_81 ?_
          refine zz_top (y := nI (2 * node)) (pk_mul _ _) ?_
          refine lv_iconst (v := nI 1) hx hb kd_M_turn_82 (by decide) ?_
          refine lv_iadd hx hb kd_M_turn_83 ?_
          refine zz_top (y := nI (2 * node + 1)) (nI_add _ _) ?_
          refine lv_goto (tgt := 91) hx hb kd_M_turn_84 (by decide) ?_
          refine lv_istore (lv' := [(4, .int (nI (2 * node + 1))), (5, .int (nI (fr + half))), (7, .int (nI 1)), (0, .ref (q 0)), (2, .int (nI ao)), (3, .int (nI pl)), (6, .int (nI half))]) hx hb kd_M_turn_91 hl (by decide) rfl (fun ls hl => ?_)
          refine lv_iload hx hb kd_M_turn_93 (lv_at hl 6 rfl) ?_
          refine lv_iconst (v := nI 2) hx hb kd_M_turn_95 (by decide) ?_
          refine lv_idiv hx hb kd_M_turn_96 (by first | decide | exact nI_ne0 (by omega) (by omega)) ?_
          refine zz_top (y := nI (half / 2)) (pk_div (by omega) (by omega) (by omega)) ?_
          refine lv_istore (lv' := [(6, .int (nI (half / 2))), (4, .int (nI (2 * node + 1))), (5, .int (nI (fr + half))), (7, .int (nI 1)), (0, .ref (q 0)), (2, .int (nI ao)), (3, .int (nI pl))]) hx hb kd_M_turn_97 hl (by decide) rfl (fun ls hl => ?_)
          refine lv_goto (tgt := 16) hx hb kd_M_turn_99 (by decide) ?_
          exact ih (half / 2) (2 * node + 1) (fr + half) (fl - 1) (upd gp1 (ao + node) (nI 0)) (by omega) (by first | (rw [zm_tb0]; exact heq.trans (zt_mt_t c18 hf c27)) | (rw [zm_tb1]; exact heq.trans (zt_mt_f c18 hf (by omega)))) (zt_hf c18 hf) (by first | exact zt_ok_n (b := 1) hok c18 (by omega) | exact zt_ok_n (b := 0) hok c18 (by omega)) (by omega) (fun j hj => by have := (zt_ok_8 hok c18).1; rw [pk_un (by omega)]; exact hg j hj) _ _ hP hD hS ls (lv_sub hl [4, 5, 6, 1, 2, 0] rfl)
  exact hc16 _ (wa / 2) 1 0 4 gp (Nat.lt_succ_self _) (rfl) (by omega) (by unfold zt_ok; omega) (by omega) (fun _ _ => rfl) _ _ hP hD hS ls (lv_sub hl [3, 5, 6, 2, 1, 0] rfl)
