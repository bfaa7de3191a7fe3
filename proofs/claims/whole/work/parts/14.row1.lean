def rm_cr_init : Room := { frames := 1, cells := 4, slots := 4960, locals := 20 }
set_option maxHeartbeats 4000000 in
set_option maxRecDepth 100000 in
/-- a new row -/
theorem cr_init (l : Launch) (dC : Nat → ClassId) (dI : Nat → Nat → Nat) (cI cZ cO cL : ClassId) (h : Nat)  : zz_Mv l ky_W_init kw_W_init rm_cr_init (dC, dI) (zz_ty cI cZ cO cL) [(h, .inr (1, [.null, .int (nI 0), .null, .null, .null]))] [.ref h] (fun (w : va_W) => ∃ (q2 : Nat → Nat), w = [(q2 0, zr_ob q2 0), (q2 1, .inl (cI, 400, .inl (fun _ => 0))), (q2 2, .inl (cI, 400, .inl (fun _ => 0))), (q2 3, .inl (cI, 4096, .inl (fun _ => 0))), (q2 4, .inl (cI, 64, .inl (fun _ => 0)))] ∧ (q2 0 = h)) 4 4960 := by
  refine zz_entry_v (cc := kb_W_init) (maxL := 1) (own := zk_RW) (by decide) rfl rfl (Nat.le_of_ble_eq_true rfl) ?_
  intro p e s m args below meth c Q hx hb hml hown hts hin hP hK A hD hA hS hret ls hl
  have hl : lv_has ls 1 [(0, .ref h)] := hl
  obtain ⟨H, eH⟩ : ∃ z, z = s.heap := ⟨_, rfl⟩
  obtain ⟨locs, eL⟩ : ∃ z : List Loc, z = [] := ⟨_, rfl⟩
  rw [← eH] at hP ⊢
  have hS : va_S A s.heap H locs := by rw [eH, eL]; exact hS
  rw [← eL]
  refine lv_aload_n hx hb kd_W_init_0 rfl (lv_at hl 0 rfl) ?_
  refine W.objInit hx hb hown (hts _ kj_50) (hts _ kj_43) (hts _ kj_44) rfl (by rw [hml]; exact hl.1) rfl kd_W_init_1 (Nat.le_of_ble_eq_true rfl) (Nat.le_of_ble_eq_true rfl) ?_
  refine W.eq (g2 := F0 m 4 ls []) rfl ?_
  refine lv_aload_n hx hb kd_W_init_4 rfl (lv_at hl 0 rfl) ?_
  refine lv_sipush (v := nI 400) hx hb kd_W_init_5 (by decide) ?_
  refine va_newa (atype := .int) (ty := .int) (a0 := (400, .inl (fun _ => 0))) hx hb (hts _ kj_61) rfl hK hP hD hS hA (fun _ => rfl) (by decide) (by decide) (by decide) (by decide) (by decide) kd_W_init_8 (fun q_1 cA_2 H hK hP hD hS => ?_)
  obtain rfl : cI = cA_2 := zz_Keq hK 0 4 rfl rfl (by decide)
  have hK := hK.sub (tys' := zz_ty cI cZ cO cL) [0, 1, 2, 3] rfl
  have hP : va_P (dC, dI) zk_cl [(h, .inr (1, [.null, .int (nI 0), .null, .null, .null])), (q_1, .inl (cI, 400, .inl (fun _ => 0)))] H := hP
  have hD : va_D A [(h, .inr (1, [.null, .int (nI 0), .null, .null, .null])), (q_1, .inl (cI, 400, .inl (fun _ => 0)))] := hD
  refine W.widen (k := 1) (n := 400) (by decide) (by decide) ?_
  refine va_putF (D := (dC, dI)) (ci := 1) (v := .ref q_1) (ty := .array .int) (C := zk_RW) (T := zk_TW) (N := 5) hx hb hts kl_W zk_tW zk_kW zk_nW hown hK hP hD hS 0 rfl rfl 0 (by decide) (hts _ kj_51) (fun _ h9 => h9) rfl hin rfl (by decide +kernel) rfl rfl (Nat.le_of_ble_eq_true rfl) kd_W_init_10 (fun H locs hP hD hS => ?_)
  have hP : va_P (dC, dI) zk_cl [(h, .inr (1, [.ref q_1, .int (nI 0), .null, .null, .null])), (q_1, .inl (cI, 400, .inl (fun _ => 0)))] H := hP
  have hD : va_D A [(h, .inr (1, [.ref q_1, .int (nI 0), .null, .null, .null])), (q_1, .inl (cI, 400, .inl (fun _ => 0)))] := hD
  refine lv_aload_n hx hb kd_W_init_13 rfl (lv_at hl 0 rfl) ?_
  refine lv_sipush (v := nI 400) hx hb kd_W_init_14 (by decide) ?_
  refine va_newa (atype := .int) (ty := .int) (a0 := (400, .inl (fun _ => 0))) hx hb (hts _ kj_61) rfl hK hP hD hS hA (fun _ => rfl) (by decide) (by decide) (by decide) (by decide) (by decide) kd_W_init_17 (fun q_3 cA_4 H hK hP hD hS => ?_)
  obtain rfl : cI = cA_4 := zz_Keq hK 0 4 rfl rfl (by decide)
  have hK := hK.sub (tys' := zz_ty cI cZ cO cL) [0, 1, 2, 3] rfl
  have hP : va_P (dC, dI) zk_cl [(h, .inr (1, [.ref q_1, .int (nI 0), .null, .null, .null])), (q_1, .inl (cI, 400, .inl (fun _ => 0))), (q_3, .inl (cI, 400, .inl (fun _ => 0)))] H := hP
  have hD : va_D A [(h, .inr (1, [.ref q_1, .int (nI 0), .null, .null, .null])), (q_1, .inl (cI, 400, .inl (fun _ => 0))), (q_3, .inl (cI, 400, .inl (fun _ => 0)))] := hD
  refine W.widen (k := 2) (n := 800) (by decide) (by decide) ?_
  refine va_putF (D := (dC, dI)) (ci := 1) (v := .ref q_3) (ty := .array .int) (C := zk_RW) (T := zk_TW) (N := 5) hx hb hts kl_W zk_tW zk_kW zk_nW hown hK hP hD hS 0 rfl rfl 2 (by decide) (hts _ kj_53) (fun _ h9 => h9) rfl hin rfl (by decide +kernel) rfl rfl (Nat.le_of_ble_eq_true rfl) kd_W_init_19 (fun H locs hP hD hS => ?_)
  have hP : va_P (dC, dI) zk_cl [(h, .inr (1, [.ref q_1, .int (nI 0), .ref q_3, .null, .null])), (q_1, .inl (cI, 400, .inl (fun _ => 0))), (q_3, .inl (cI, 400, .inl (fun _ => 0)))] H := hP
  have hD : va_D A [(h, .inr (1, [.ref q_1, .int (nI 0), .ref q_3, .null, .null])), (q_1, .inl (cI, 400, .inl (fun _ => 0))), (q_3, .inl (cI, 400, .inl (fun _ => 0)))] := hD
  refine lv_aload_n hx hb kd_W_init_22 rfl (lv_at hl 0 rfl) ?_
  refine lv_sipush (v := nI 4096) hx hb kd_W_init_23 (by decide) ?_
  refine va_newa (atype := .int) (ty := .int) (a0 := (4096, .inl (fun _ => 0))) hx hb (hts _ kj_61) rfl hK hP hD hS hA (fun _ => rfl) (by decide) (by decide) (by decide) (by decide) (by decide) kd_W_init_26 (fun q_5 cA_6 H hK hP hD hS => ?_)
  obtain rfl : cI = cA_6 := zz_Keq hK 0 4 rfl rfl (by decide)
  have hK := hK.sub (tys' := zz_ty cI cZ cO cL) [0, 1, 2, 3] rfl
  have hP : va_P (dC, dI) zk_cl [(h, .inr (1, [.ref q_1, .int (nI 0), .ref q_3, .null, .null])), (q_1, .inl (cI, 400, .inl (fun _ => 0))), (q_3, .inl (cI, 400, .inl (fun _ => 0))), (q_5, .inl (cI, 4096, .inl (fun _ => 0)))] H := hP
  have hD : va_D A [(h, .inr (1, [.ref q_1, .int (nI 0), .ref q_3, .null, .null])), (q_1, .inl (cI, 400, .inl (fun _ => 0))), (q_3, .inl (cI, 400, .inl (fun _ => 0))), (q_5, .inl (cI, 4096, .inl (fun _ => 0)))] := hD
  refine W.widen (k := 3) (n := 4896) (by decide) (by decide) ?_
  refine va_putF (D := (dC, dI)) (ci := 1) (v := .ref q_5) (ty := .array .int) (C := zk_RW) (T := zk_TW) (N := 5) hx hb hts kl_W zk_tW zk_kW zk_nW hown hK hP hD hS 0 rfl rfl 3 (by decide) (hts _ kj_54) (fun _ h9 => h9) rfl hin rfl (by decide +kernel) rfl rfl (Nat.le_of_ble_eq_true rfl) kd_W_init_28 (fun H locs hP hD hS => ?_)
  have hP : va_P (dC, dI) zk_cl [(h, .inr (1, [.ref q_1, .int (nI 0), .ref q_3, .ref q_5, .null])), (q_1, .inl (cI, 400, .inl (fun _ => 0))), (q_3, .inl (cI, 400, .inl (fun _ => 0))), (q_5, .inl (cI, 4096, .inl (fun _ => 0)))] H := hP
  have hD : va_D A [(h, .inr (1, [.ref q_1, .int (nI 0), .ref q_3, .ref q_5, .null])), (q_1, .inl (cI, 400, .inl (fun _ => 0))), (q_3, .inl (cI, 400, .inl (fun _ => 0))), (q_5, .inl (cI, 4096, .inl (fun _ => 0)))] := hD
  refine lv_aload_n hx hb kd_W_init_31 rfl (lv_at hl 0 rfl) ?_
  refine lv_bipush (v := nI 64) hx hb kd_W_init_32 (by decide) ?_
  refine va_newa (atype := .int) (ty := .int) (a0 := (64, .inl (fun _ => 0))) hx hb (hts _ kj_61) rfl hK hP hD hS hA (fun _ => rfl) (by decide) (by decide) (by decide) (by decide) (by decide) kd_W_init_34 (fun q_7 cA_8 H hK hP hD hS => ?_)
  obtain rfl : cI = cA_8 := zz_Keq hK 0 4 rfl rfl (by decide)
  have hK := hK.sub (tys' := zz_ty cI cZ cO cL) [0, 1, 2, 3] rfl
  have hP : va_P (dC, dI) zk_cl [(h, .inr (1, [.ref q_1, .int (nI 0), .ref q_3, .ref q_5, .null])), (q_1, .inl (cI, 400, .inl (fun _ => 0))), (q_3, .inl (cI, 400, .inl (fun _ => 0))), (q_5, .inl (cI, 4096, .inl (fun _ => 0))), (q_7, .inl (cI, 64, .inl (fun _ => 0)))] H := hP
  have hD : va_D A [(h, .inr (1, [.ref q_1, .int (nI 0), .ref q_3, .ref q_5, .null])), (q_1, .inl (cI, 400, .inl (fun _ => 0))), (q_3, .inl (cI, 400, .inl (fun _ => 0))), (q_5, .inl (cI, 4096, .inl (fun _ => 0))), (q_7, .inl (cI, 64, .inl (fun _ => 0)))] := hD
  refine W.widen (k := 4) (n := 4960) (by decide) (by decide) ?_
  refine va_putF (D := (dC, dI)) (ci := 1) (v := .ref q_7) (ty := .array .int) (C := zk_RW) (T := zk_TW) (N := 5) hx hb hts kl_W zk_tW zk_kW zk_nW hown hK hP hD hS 0 rfl rfl 4 (by decide) (hts _ kj_55) (fun _ h9 => h9) rfl hin rfl (by decide +kernel) rfl rfl (Nat.le_of_ble_eq_true rfl) kd_W_init_36 (fun H locs hP hD hS => ?_)
  have hP : va_P (dC, dI) zk_cl [(h, .inr (1, [.ref q_1, .int (nI 0), .ref q_3, .ref q_5, .ref q_7])), (q_1, .inl (cI, 400, .inl (fun _ => 0))), (q_3, .inl (cI, 400, .inl (fun _ => 0))), (q_5, .inl (cI, 4096, .inl (fun _ => 0))), (q_7, .inl (cI, 64, .inl (fun _ => 0)))] H := hP
  have hD : va_D A [(h, .inr (1, [.ref q_1, .int (nI 0), .ref q_3, .ref q_5, .ref q_7])), (q_1, .inl (cI, 400, .inl (fun _ => 0))), (q_3, .inl (cI, 400, .inl (fun _ => 0))), (q_5, .inl (cI, 4096, .inl (fun _ => 0))), (q_7, .inl (cI, 64, .inl (fun _ => 0)))] := hD
  exact hret _ _ _ _ _ kd_W_init_39 hP hD hS (⟨zq_mk h q_1 q_3 q_5 q_7, rfl, (rfl)⟩)

def rm_cr_length : Room := { frames := 0, cells := 0, slots := 0, locals := 0 }
set_option maxHeartbeats 4000000 in
set_option maxRecDepth 100000 in
/-- how many accesses -/
theorem cr_length (l : Launch) (dC : Nat → ClassId) (dI : Nat → Nat → Nat) (cI cZ cO cL : ClassId) (q : Nat → Nat) (n : Nat)  : zz_Mi l ky_W_length kw_W_length rm_cr_length (dC, dI) (zz_ty cI cZ cO cL) [(q 0, zr_ob q n)] [.ref (q 0)] (fun (r : Int32) (w : va_W) => w = [(q 0, zr_ob q n)] ∧ (r = nI n)) 0 0 := by
  refine zz_entry_i (cc := kb_W_length) (maxL := 1) (own := zk_RW) (by decide) rfl rfl (Nat.le_of_ble_eq_true rfl) ?_
  intro p e s m args below meth c Q hx hb hml hown hts hin hP hK A hD hA hS hret ls hl
  have hl : lv_has ls 1 [(0, .ref (q 0))] := hl
  obtain ⟨H, eH⟩ : ∃ z, z = s.heap := ⟨_, rfl⟩
  obtain ⟨locs, eL⟩ : ∃ z : List Loc, z = [] := ⟨_, rfl⟩
  rw [← eH] at hP ⊢
  have hS : va_S A s.heap H locs := by rw [eH, eL]; exact hS
  rw [← eL]
  refine lv_aload_n hx hb kd_W_length_0 rfl (lv_at hl 0 rfl) ?_
  refine va_get (D := (dC, dI)) (ci := 1) (v := .int (nI n)) (C := zk_RW) (T := zk_TW) (N := 5) hx hb hts kl_W hown hK hP 0 rfl rfl 1 (by decide) (hts _ kj_52) (fun _ h9 => h9) rfl kd_W_length_1 ?_
  exact hret _ _ _ _ _ _ kd_W_length_4 hP hD hS (⟨rfl, rfl⟩)

def rm_cr_keep : Room := { frames := 0, cells := 0, slots := 0, locals := 0 }
set_option maxHeartbeats 4000000 in
set_option maxRecDepth 100000 in
/-- an access is kept -/
theorem cr_keep (l : Launch) (dC : Nat → ClassId) (dI : Nat → Nat → Nat) (cI cZ cO cL : ClassId) (q : Nat → Nat) (n : Nat) (fa : Nat → Int32) (x : Int32) (hn : n < 400) : zz_Mv l ky_W_keep kw_W_keep rm_cr_keep (dC, dI) (zz_ty cI cZ cO cL) [(q 0, zr_ob q n), (q 1, .inl (cI, 400, .inl fa))] [.ref (q 0), .int x] (fun (w : va_W) => w = [(q 0, zr_ob q (n + 1)), (q 1, .inl (cI, 400, .inl (upd fa n x)))]) 0 0 := by
  refine zz_entry_v (cc := kb_W_keep) (maxL := 2) (own := zk_RW) (by decide) rfl rfl (Nat.le_of_ble_eq_true rfl) ?_
  intro p e s m args below meth c Q hx hb hml hown hts hin hP hK A hD hA hS hret ls hl
  have hl : lv_has ls 2 [(0, .ref (q 0)), (1, .int x)] := hl
  obtain ⟨H, eH⟩ : ∃ z, z = s.heap := ⟨_, rfl⟩
  obtain ⟨locs, eL⟩ : ∃ z : List Loc, z = [] := ⟨_, rfl⟩
  rw [← eH] at hP ⊢
  have hS : va_S A s.heap H locs := by rw [eH, eL]; exact hS
  rw [← eL]
  refine lv_aload_n hx hb kd_W_keep_0 rfl (lv_at hl 0 rfl) ?_
  refine va_get (D := (dC, dI)) (ci := 1) (v := .int (nI n)) (C := zk_RW) (T := zk_TW) (N := 5) hx hb hts kl_W hown hK hP 0 rfl rfl 1 (by decide) (hts _ kj_52) (fun _ h9 => h9) rfl kd_W_keep_1 ?_
  refine lv_sipush (v := nI 400) hx hb kd_W_keep_4 (by decide) ?_
  refine zz_icmp_ge (tgt := 30) hx hb kd_W_keep_7 (by decide) (by omega) (by decide) (fun c7 => ?_) (fun c7 => ?_)
  · skip
    exact absurd c7 (by omega)
  · skip
    refine lv_aload_n hx hb kd_W_keep_10 rfl (lv_at hl 0 rfl) ?_
    refine va_get (D := (dC, dI)) (ci := 1) (v := .ref (q 1)) (C := zk_RW) (T := zk_TW) (N := 5) hx hb hts kl_W hown hK hP 0 rfl rfl 0 (by decide) (hts _ kj_51) (fun _ h9 => h9) rfl kd_W_keep_11 ?_
    refine lv_aload_n hx hb kd_W_keep_14 rfl (lv_at hl 0 rfl) ?_
    refine va_get (D := (dC, dI)) (ci := 1) (v := .int (nI n)) (C := zk_RW) (T := zk_TW) (N := 5) hx hb hts kl_W hown hK hP 0 rfl rfl 1 (by decide) (hts _ kj_52) (fun _ h9 => h9) rfl kd_W_keep_15 ?_
    refine lv_iload_n hx hb kd_W_keep_18 rfl (lv_at hl 1 rfl) ?_
    refine zz_iast hx hb hK hP hD hS 1 0 rfl rfl (k := n) (by omega) (by decide) kd_W_keep_19 (fun H locs hP hD hS => ?_)
    have hP : va_P (dC, dI) zk_cl [(q 0, zr_ob q n), (q 1, .inl (cI, 400, .inl (upd fa n x)))] H := hP
    have hD : va_D A [(q 0, zr_ob q n), (q 1, .inl (cI, 400, .inl (upd fa n x)))] := hD
    refine lv_aload_n hx hb kd_W_keep_20 rfl (lv_at hl 0 rfl) ?_
    refine lv_dup hx hb kd_W_keep_21 rfl ?_
    refine va_get (D := (dC, dI)) (ci := 1) (v := .int (nI n)) (C := zk_RW) (T := zk_TW) (N := 5) hx hb hts kl_W hown hK hP 0 rfl rfl 1 (by decide) (hts _ kj_52) (fun _ h9 => h9) rfl kd_W_keep_22 ?_
    refine lv_iconst (v := nI 1) hx hb kd_W_keep_25 (by decide) ?_
    refine lv_iadd hx hb kd_W_keep_26 ?_
    refine zz_top (y := nI (n + 1)) (nI_add _ _) ?_
    refine va_put (D := (dC, dI)) (ci := 1) (v := .int (nI (n + 1))) (ty := .int) (C := zk_RW) (T := zk_TW) (N := 5) hx hb hts kl_W zk_tW zk_kW zk_nW hown hK hP hD hS 0 rfl rfl 1 (by decide) (hts _ kj_52) (fun _ h9 => h9) rfl (by decide +kernel) rfl rfl (Nat.le_of_ble_eq_true rfl) kd_W_keep_27 (fun H locs hP hD hS => ?_)
    have hP : va_P (dC, dI) zk_cl [(q 0, zr_ob q (n + 1)), (q 1, .inl (cI, 400, .inl (upd fa n x)))] H := hP
    have hD : va_D A [(q 0, zr_ob q (n + 1)), (q 1, .inl (cI, 400, .inl (upd fa n x)))] := hD
    exact hret _ _ _ _ _ kd_W_keep_30 hP hD hS (rfl)

def rm_cr_findLine : Room := { frames := 0, cells := 0, slots := 0, locals := 0 }
set_option maxHeartbeats 4000000 in
set_option maxRecDepth 100000 in
/-- the first line with this use -/
theorem cr_findLine (l : Launch) (dC : Nat → ClassId) (dI : Nat → Nat → Nat) (cI cZ cO cL : ClassId) (q : Nat → Nat) (n : Nat) (fl : Nat → Int32) (hd : Nat) (x : Int32) (hh : hd ≤ 64) : zz_Mi l ky_W_findLine kw_W_findLine rm_cr_findLine (dC, dI) (zz_ty cI cZ cO cL) [(q 0, zr_ob q n), (q 4, .inl (cI, 64, .inl fl))] [.ref (q 0), .int x, .int (nI hd)] (fun (r : Int32) (w : va_W) => w = [(q 0, zr_ob q n), (q 4, .inl (cI, 64, .inl fl))] ∧ (zf_FP fl hd x r)) 0 0 := by
  refine zz_entry_i (cc := kb_W_findLine) (maxL := 4) (own := zk_RW) (by decide) rfl rfl (Nat.le_of_ble_eq_true rfl) ?_
  intro p e s m args below meth c Q hx hb hml hown hts hin hP hK A hD hA hS hret ls hl
  have hl : lv_has ls 4 [(0, .ref (q 0)), (1, .int x), (2, .int (nI hd))] := hl
  obtain ⟨H, eH⟩ : ∃ z, z = s.heap := ⟨_, rfl⟩
  obtain ⟨locs, eL⟩ : ∃ z : List Loc, z = [] := ⟨_, rfl⟩
  rw [← eH] at hP ⊢
  have hS : va_S A s.heap H locs := by rw [eH, eL]; exact hS
  rw [← eL]
  refine lv_iconst (v := nI 0) hx hb kd_W_findLine_0 (by decide) ?_
  refine lv_istore_n (lv' := [(3, .int (nI 0)), (0, .ref (q 0)), (1, .int x), (2, .int (nI hd))]) hx hb kd_W_findLine_1 rfl hl (by decide) rfl (fun ls hl => ?_)
  have hc2 : ∀ (nn : Nat), ∀ (k : Nat), hd - k < nn → (k ≤ hd) → (∀ j, j < k → fl j ≠ x) → ∀ (H : Heap) (locs : List Loc), va_P (dC, dI) zk_cl [(q 0, zr_ob q n), (q 4, .inl (cI, 64, .inl fl))] H → va_D A [(q 0, zr_ob q n), (q 4, .inl (cI, 64, .inl fl))] → va_S A s.heap H locs → ∀ ls : Array Slot, lv_has ls 4 [(0, .ref (q 0)), (1, .int x), (2, .int (nI hd)), (3, .int (nI k))] → W p l e rm_cr_findLine s m args below meth c H locs 0 0 Q (F0 m 2 ls []) := by
    intro nn
    induction nn with
    | zero => intro k hm; exact absurd hm (Nat.not_lt_zero _)
    | succ nn ih =>
      intro k hm hk hn H locs hP hD hS ls hl
      refine lv_iload_n hx hb kd_W_findLine_2 rfl (lv_at hl 3 rfl) ?_
      refine lv_iload_n hx hb kd_W_findLine_3 rfl (lv_at hl 2 rfl) ?_
      refine zz_icmp_ge (tgt := 25) hx hb kd_W_findLine_4 (by decide) (by omega) (by omega) (fun c4 => ?_) (fun c4 => ?_)
      · skip
        refine lv_iconst (v := (-1)) hx hb kd_W_findLine_25 (by decide) ?_
        exact hret _ _ _ _ _ _ kd_W_findLine_26 hP hD hS (⟨rfl, (Or.inr ⟨rfl, fun j h => hn j (by omega)⟩)⟩)
      · skip
        refine lv_aload_n hx hb kd_W_findLine_7 rfl (lv_at hl 0 rfl) ?_
        refine va_get (D := (dC, dI)) (ci := 1) (v := .ref (q 4)) (C := zk_RW) (T := zk_TW) (N := 5) hx hb hts kl_W hown hK hP 0 rfl rfl 4 (by decide) (hts _ kj_55) (fun _ h9 => h9) rfl kd_W_findLine_8 ?_
        refine lv_iload_n hx hb kd_W_findLine_11 rfl (lv_at hl 3 rfl) ?_
        refine zz_iald hx hb hK hP 1 0 rfl rfl (k := k) (by omega) (by decide) kd_W_findLine_12 ?_
        refine lv_iload_n hx hb kd_W_findLine_13 rfl (lv_at hl 1 rfl) ?_
        refine lv_icmp_ne (tgt := 19) hx hb kd_W_findLine_14 (by decide) (fun c14 => ?_) (fun c14 => ?_)
        · skip
          refine lv_iinc (v := nI (k + 1)) (lv' := [(3, .int (nI (k + 1))), (0, .ref (q 0)), (1, .int x), (2, .int (nI hd))]) hx hb kd_W_findLine_19 hl (k := 3) rfl (by first | exact nI_1 _ | (show _ + _ = _; exact nI_1 _)) (by decide) rfl (fun ls hl => ?_)
          refine lv_goto (tgt := 2) hx hb kd_W_findLine_22 (by decide) ?_
          exact ih (k + 1) (by omega) (by omega) (fun j h => by
            rcases Nat.lt_or_ge j k with z | z
            · exact hn j z
            · rw [show j = k by omega]; exact c14) _ _ hP hD hS ls (lv_sub hl [1, 2, 3, 0] rfl)
        · skip
          refine lv_iload_n hx hb kd_W_findLine_17 rfl (lv_at hl 3 rfl) ?_
          exact hret _ _ _ _ _ _ kd_W_findLine_18 hP hD hS (⟨rfl, (Or.inl ⟨k, by omega, rfl, c14, hn⟩)⟩)
  exact hc2 _ 0 (Nat.lt_succ_self _) (by omega) (fun j h => by omega) _ _ hP hD hS ls (lv_sub hl [1, 2, 3, 0] rfl)

def rm_cr_lineNeededLast : Room := { frames := 0, cells := 0, slots := 0, locals := 0 }
set_option maxHeartbeats 4000000 in
set_option maxRecDepth 100000 in
/-- the line that is needed the latest -/
theorem cr_lineNeededLast (l : Launch) (dC : Nat → ClassId) (dI : Nat → Nat → Nat) (cI cZ cO cL : ClassId) (q : Nat → Nat) (n : Nat) (fl : Nat → Int32) (hd : Nat) (hh : 1 ≤ hd ∧ hd ≤ 64) : zz_Mi l ky_W_lineNeededLast kw_W_lineNeededLast rm_cr_lineNeededLast (dC, dI) (zz_ty cI cZ cO cL) [(q 0, zr_ob q n), (q 4, .inl (cI, 64, .inl fl))] [.ref (q 0), .int (nI hd)] (fun (r : Int32) (w : va_W) => ∃ (o : Nat), w = [(q 0, zr_ob q n), (q 4, .inl (cI, 64, .inl fl))] ∧ (r = nI o) ∧ (zf_AX fl hd o)) 0 0 := by
  refine zz_entry_i (cc := kb_W_lineNeededLast) (maxL := 4) (own := zk_RW) (by decide) rfl rfl (Nat.le_of_ble_eq_true rfl) ?_
  intro p e s m args below meth c Q hx hb hml hown hts hin hP hK A hD hA hS hret ls hl
  have hl : lv_has ls 4 [(0, .ref (q 0)), (1, .int (nI hd))] := hl
  obtain ⟨H, eH⟩ : ∃ z, z = s.heap := ⟨_, rfl⟩
  obtain ⟨locs, eL⟩ : ∃ z : List Loc, z = [] := ⟨_, rfl⟩
  rw [← eH] at hP ⊢
  have hS : va_S A s.heap H locs := by rw [eH, eL]; exact hS
  rw [← eL]
  refine lv_iconst (v := nI 0) hx hb kd_W_lineNeededLast_0 (by decide) ?_
  refine lv_istore_n (lv' := [(2, .int (nI 0)), (0, .ref (q 0)), (1, .int (nI hd))]) hx hb kd_W_lineNeededLast_1 rfl hl (by decide) rfl (fun ls hl => ?_)
  refine lv_iconst (v := nI 1) hx hb kd_W_lineNeededLast_2 (by decide) ?_
  refine lv_istore_n (lv' := [(3, .int (nI 1)), (2, .int (nI 0)), (0, .ref (q 0)), (1, .int (nI hd))]) hx hb kd_W_lineNeededLast_3 rfl hl (by decide) rfl (fun ls hl => ?_)
  have hc4 : ∀ (nn : Nat), ∀ (o : Nat) (k : Nat), hd - k < nn → (1 ≤ k ∧ k ≤ hd) → (zf_AX fl k o) → ∀ (H : Heap) (locs : List Loc), va_P (dC, dI) zk_cl [(q 0, zr_ob q n), (q 4, .inl (cI, 64, .inl fl))] H → va_D A [(q 0, zr_ob q n), (q 4, .inl (cI, 64, .inl fl))] → va_S A s.heap H locs → ∀ ls : Array Slot, lv_has ls 4 [(0, .ref (q 0)), (1, .int (nI hd)), (2, .int (nI o)), (3, .int (nI k))] → W p l e rm_cr_lineNeededLast s m args below meth c H locs 0 0 Q (F0 m 4 ls []) := by
    intro nn
    induction nn with
    | zero => intro o k hm; exact absurd hm (Nat.not_lt_zero _)
    | succ nn ih =>
      intro o k hm hk hax H locs hP hD hS ls hl
      have ho := hax.1
      refine lv_iload_n hx hb kd_W_lineNeededLast_4 rfl (lv_at hl 3 rfl) ?_
      refine lv_iload_n hx hb kd_W_lineNeededLast_5 rfl (lv_at hl 1 rfl) ?_
      refine zz_icmp_ge (tgt := 32) hx hb kd_W_lineNeededLast_6 (by decide) (by omega) (by omega) (fun c6 => ?_) (fun c6 => ?_)
      · skip
        refine lv_iload_n hx hb kd_W_lineNeededLast_32 rfl (lv_at hl 2 rfl) ?_
        exact hret _ _ _ _ _ _ kd_W_lineNeededLast_33 hP hD hS (⟨o, rfl, rfl, ((show k = hd by omega) ▸ hax)⟩)
      · skip
        refine lv_aload_n hx hb kd_W_lineNeededLast_9 rfl (lv_at hl 0 rfl) ?_
        refine va_get (D := (dC, dI)) (ci := 1) (v := .ref (q 4)) (C := zk_RW) (T := zk_TW) (N := 5) hx hb hts kl_W hown hK hP 0 rfl rfl 4 (by decide) (hts _ kj_55) (fun _ h9 => h9) rfl kd_W_lineNeededLast_10 ?_
        refine lv_iload_n hx hb kd_W_lineNeededLast_13 rfl (lv_at hl 3 rfl) ?_
        refine zz_iald hx hb hK hP 1 0 rfl rfl (k := k) (by omega) (by decide) kd_W_lineNeededLast_14 ?_
        refine lv_aload_n hx hb kd_W_lineNeededLast_15 rfl (lv_at hl 0 rfl) ?_
        refine va_get (D := (dC, dI)) (ci := 1) (v := .ref (q 4)) (C := zk_RW) (T := zk_TW) (N := 5) hx hb hts kl_W hown hK hP 0 rfl rfl 4 (by decide) (hts _ kj_55) (fun _ h9 => h9) rfl kd_W_lineNeededLast_16 ?_
        refine lv_iload_n hx hb kd_W_lineNeededLast_19 rfl (lv_at hl 2 rfl) ?_
        refine zz_iald hx hb hK hP 1 0 rfl rfl (k := o) (by omega) (by decide) kd_W_lineNeededLast_20 ?_
        refine lv_icmp_le (tgt := 26) hx hb kd_W_lineNeededLast_21 (by decide) (fun c21 => ?_) (fun c21 => ?_)
        · skip
          refine lv_iinc (v := nI (k + 1)) (lv' := [(3, .int (nI (k + 1))), (0, .ref (q 0)), (1, .int (nI hd)), (2, .int (nI o))]) hx hb kd_W_lineNeededLast_26 hl (k := 3) rfl (by first | exact nI_1 _ | (show _ + _ = _; exact nI_1 _)) (by decide) rfl (fun ls hl => ?_)
          refine lv_goto (tgt := 4) hx hb kd_W_lineNeededLast_29 (by decide) ?_
          exact ih o (k + 1) (by omega) (by omega) (by first | exact zf_AX_t hax (zu_nle c21) | exact zf_AX_f hax (zu_nlt c21)) _ _ hP hD hS ls (lv_sub hl [1, 2, 3, 0] rfl)
        · skip
          refine lv_iload_n hx hb kd_W_lineNeededLast_24 rfl (lv_at hl 3 rfl) ?_
          refine lv_istore_n (lv' := [(2, .int (nI k)), (0, .ref (q 0)), (1, .int (nI hd)), (3, .int (nI k))]) hx hb kd_W_lineNeededLast_25 rfl hl (by decide) rfl (fun ls hl => ?_)
          refine lv_iinc (v := nI (k + 1)) (lv' := [(3, .int (nI (k + 1))), (2, .int (nI k)), (0, .ref (q 0)), (1, .int (nI hd))]) hx hb kd_W_lineNeededLast_26 hl (k := 3) rfl (by first | exact nI_1 _ | (show _ + _ = _; exact nI_1 _)) (by decide) rfl (fun ls hl => ?_)
          refine lv_goto (tgt := 4) hx hb kd_W_lineNeededLast_29 (by decide) ?_
          exact ih k (k + 1) (by omega) (by omega) (by first | exact zf_AX_t hax (zu_nle c21) | exact zf_AX_f hax (zu_nlt c21)) _ _ hP hD hS ls (lv_sub hl [2, 3, 1, 0] rfl)
  exact hc4 _ 0 1 (Nat.lt_succ_self _) (by omega) (zf_AX_1) _ _ hP hD hS ls (lv_sub hl [2, 3, 1, 0] rfl)

def rm_cr_bringToFront : Room := { frames := 0, cells := 0, slots := 0, locals := 0 }
set_option maxHeartbeats 4000000 in
set_option maxRecDepth 100000 in
/-- a line comes to the front -/
theorem cr_bringToFront (l : Launch) (dC : Nat → ClassId) (dI : Nat → Nat → Nat) (cI cZ cO cL : ClassId) (q : Nat → Nat) (n : Nat) (fl : Nat → Int32) (li : Nat) (x : Int32) (hli : li < 64) : zz_Mv l ky_W_bringToFront kw_W_bringToFront rm_cr_bringToFront (dC, dI) (zz_ty cI cZ cO cL) [(q 0, zr_ob q n), (q 4, .inl (cI, 64, .inl fl))] [.ref (q 0), .int (nI li), .int x] (fun (w : va_W) => ∃ (fl2 : Nat → Int32), w = [(q 0, zr_ob q n), (q 4, .inl (cI, 64, .inl fl2))] ∧ (fl2 0 = x) ∧ (∀ j, j < li → fl2 (j + 1) = fl j) ∧ (∀ j, li < j → fl2 j = fl j)) 0 0 := by
  refine zz_entry_v (cc := kb_W_bringToFront) (maxL := 4) (own := zk_RW) (by decide) rfl rfl (Nat.le_of_ble_eq_true rfl) ?_
  intro p e s m args below meth c Q hx hb hml hown hts hin hP hK A hD hA hS hret ls hl
  have hl : lv_has ls 4 [(0, .ref (q 0)), (1, .int (nI li)), (2, .int x)] := hl
  obtain ⟨H, eH⟩ : ∃ z, z = s.heap := ⟨_, rfl⟩
  obtain ⟨locs, eL⟩ : ∃ z : List Loc, z = [] := ⟨_, rfl⟩
  rw [← eH] at hP ⊢
  have hS : va_S A s.heap H locs := by rw [eH, eL]; exact hS
  rw [← eL]
  refine lv_iload_n hx hb kd_W_bringToFront_0 rfl (lv_at hl 1 rfl) ?_
  refine lv_istore_n (lv' := [(3, .int (nI li)), (0, .ref (q 0)), (1, .int (nI li)), (2, .int x)]) hx hb kd_W_bringToFront_1 rfl hl (by decide) rfl (fun ls hl => ?_)
  have hc2 : ∀ (nn : Nat), ∀ (k : Nat) (fl1 : Nat → Int32), k < nn → (k ≤ li) → (∀ j, k ≤ j → j < li → fl1 (j + 1) = fl j) → (∀ j, j ≤ k → fl1 j = fl j) → (∀ j, li < j → fl1 j = fl j) → ∀ (H : Heap) (locs : List Loc), va_P (dC, dI) zk_cl [(q 0, zr_ob q n), (q 4, .inl (cI, 64, .inl fl1))] H → va_D A [(q 0, zr_ob q n), (q 4, .inl (cI, 64, .inl fl1))] → va_S A s.heap H locs → ∀ ls : Array Slot, lv_has ls 4 [(0, .ref (q 0)), (2, .int x), (3, .int (nI k))] → W p l e rm_cr_bringToFront s m args below meth c H locs 0 0 Q (F0 m 2 ls []) := by
    intro nn
    induction nn with
    | zero => intro k fl1 hm; exact absurd hm (Nat.not_lt_zero _)
    | succ nn ih =>
      intro k fl1 hm hk g1 g2 g3 H locs hP hD hS ls hl
      refine lv_iload_n hx hb kd_W_bringToFront_2 rfl (lv_at hl 2 rfl) ?_
      refine zz_if_le (tgt := 26) hx hb kd_W_bringToFront_3 (by decide) (by omega) (fun c3 => ?_) (fun c3 => ?_)
      · skip
        refine lv_aload_n hx hb kd_W_bringToFront_26 rfl (lv_at hl 0 rfl) ?_
        refine va_get (D := (dC, dI)) (ci := 1) (v := .ref (q 4)) (C := zk_RW) (T := zk_TW) (N := 5) hx hb hts kl_W hown hK hP 0 rfl rfl 4 (by decide) (hts _ kj_55) (fun _ h9 => h9) rfl kd_W_bringToFront_27 ?_
        refine lv_iconst (v := nI 0) hx hb kd_W_bringToFront_30 (by decide) ?_
        refine lv_iload_n hx hb kd_W_bringToFront_31 rfl (lv_at hl 1 rfl) ?_
        refine zz_iast hx hb hK hP hD hS 1 0 rfl rfl (k := 0) (by omega) (by decide) kd_W_bringToFront_32 (fun H locs hP hD hS => ?_)
        have hP : va_P (dC, dI) zk_cl [(q 0, zr_ob q n), (q 4, .inl (cI, 64, .inl (upd fl1 0 x)))] H := hP
        have hD : va_D A [(q 0, zr_ob q n), (q 4, .inl (cI, 64, .inl (upd fl1 0 x)))] := hD
        exact hret _ _ _ _ _ kd_W_bringToFront_33 hP hD hS (⟨upd fl1 0 x, rfl, (pk_us), (fun j h => by rw [pk_un (by omega)]; exact g1 j (by omega) h), (fun j h => by rw [pk_un (by omega)]; exact g3 j h)⟩)
      · skip
        refine lv_aload_n hx hb kd_W_bringToFront_6 rfl (lv_at hl 0 rfl) ?_
        refine va_get (D := (dC, dI)) (ci := 1) (v := .ref (q 4)) (C := zk_RW) (T := zk_TW) (N := 5) hx hb hts kl_W hown hK hP 0 rfl rfl 4 (by decide) (hts _ kj_55) (fun _ h9 => h9) rfl kd_W_bringToFront_7 ?_
        refine lv_iload_n hx hb kd_W_bringToFront_10 rfl (lv_at hl 2 rfl) ?_
        refine lv_aload_n hx hb kd_W_bringToFront_11 rfl (lv_at hl 0 rfl) ?_
        refine va_get (D := (dC, dI)) (ci := 1) (v := .ref (q 4)) (C := zk_RW) (T := zk_TW) (N := 5) hx hb hts kl_W hown hK hP 0 rfl rfl 4 (by decide) (hts _ kj_55) (fun _ h9 => h9) rfl kd_W_bringToFront_12 ?_
        refine lv_iload_n hx hb kd_W_bringToFront_15 rfl (lv_at hl 2 rfl) ?_
        refine lv_iconst (v := nI 1) hx hb kd_W_bringToFront_16 (by decide) ?_
        refine lv_isub hx hb kd_W_bringToFront_17 ?_
        refine zz_top (y := nI (k - 1)) (pk_sub (by omega)) ?_
        refine zz_iald hx hb hK hP 1 0 rfl rfl (k := k - 1) (by omega) (by decide) kd_W_bringToFront_18 ?_
        refine zz_iast hx hb hK hP hD hS 1 0 rfl rfl (k := k) (by omega) (by decide) kd_W_bringToFront_19 (fun H locs hP hD hS => ?_)
        have hP : va_P (dC, dI) zk_cl [(q 0, zr_ob q n), (q 4, .inl (cI, 64, .inl (upd fl1 k (fl1 (k - 1)))))] H := hP
        have hD : va_D A [(q 0, zr_ob q n), (q 4, .inl (cI, 64, .inl (upd fl1 k (fl1 (k - 1)))))] := hD
        refine lv_iinc (v := nI (k - 1)) (lv' := [(3, .int (nI (k - 1))), (0, .ref (q 0)), (2, .int x)]) hx hb kd_W_bringToFront_20 hl (k := 2) rfl (by first | exact zn_dec (by omega) | (show _ + _ = _; exact zn_dec (by omega))) (by decide) rfl (fun ls hl => ?_)
        refine lv_goto (tgt := 2) hx hb kd_W_bringToFront_23 (by decide) ?_
        exact ih (k - 1) (upd fl1 k (fl1 (k - 1))) (by omega) (by omega) (fun j a b => by
          by_cases z : j + 1 = k
          · rw [z, pk_us, g2 _ (by omega), show k - 1 = j by omega]
          · rw [pk_un z]; exact g1 j (by omega) b) (fun j a => by rw [pk_un (by omega)]; exact g2 j (by omega)) (fun j a => by rw [pk_un (by omega)]; exact g3 j a) _ _ hP hD hS ls (lv_sub hl [1, 2, 0] rfl)
  exact hc2 _ li fl (Nat.lt_succ_self _) (by omega) (fun j a b => by omega) (fun _ _ => rfl) (fun _ _ => rfl) _ _ hP hD hS ls (lv_sub hl [1, 3, 0] rfl)

def rm_cr_findNextUses : Room := { frames := 0, cells := 0, slots := 0, locals := 0 }
set_option maxHeartbeats 4000000 in
set_option maxRecDepth 100000 in
/-- the next use of each access -/
theorem cr_findNextUses (l : Launch) (dC : Nat → ClassId) (dI : Nat → Nat → Nat) (cI cZ cO cL : ClassId) (q : Nat → Nat) (n : Nat) (fa : Nat → Int32) (fn : Nat → Int32) (ff : Nat → Int32) (ad : Nat → Nat) (bb : Nat) (hn : n ≤ 400) (hfa : ∀ j, j < n → fa j = nI (ad j) ∧ ad j < 4096) (hbb : bb ≤ 6) : zz_Mv l ky_W_findNextUses kw_W_findNextUses rm_cr_findNextUses (dC, dI) (zz_ty cI cZ cO cL) [(q 0, zr_ob q n), (q 1, .inl (cI, 400, .inl fa)), (q 2, .inl (cI, 400, .inl fn)), (q 3, .inl (cI, 4096, .inl ff))] [.ref (q 0), .int (nI bb)] (fun (w : va_W) => ∃ (fn2 : Nat → Int32), ∃ (ff2 : Nat → Int32), w = [(q 0, zr_ob q n), (q 1, .inl (cI, 400, .inl fa)), (q 2, .inl (cI, 400, .inl fn2)), (q 3, .inl (cI, 4096, .inl ff2))] ∧ (∀ i, i < n → ∃ u, fn2 i = nI u ∧ zx_NX n (fun i => ad i / 2 ^ bb) i u)) 0 0 := by
  refine zz_entry_v (cc := kb_W_findNextUses) (maxL := 4) (own := zk_RW) (by decide) rfl rfl (Nat.le_of_ble_eq_true rfl) ?_
  intro p e s m args below meth c Q hx hb hml hown hts hin hP hK A hD hA hS hret ls hl
  have hl : lv_has ls 4 [(0, .ref (q 0)), (1, .int (nI bb))] := hl
  obtain ⟨H, eH⟩ : ∃ z, z = s.heap := ⟨_, rfl⟩
  obtain ⟨locs, eL⟩ : ∃ z : List Loc, z = [] := ⟨_, rfl⟩
  rw [← eH] at hP ⊢
  have hS : va_S A s.heap H locs := by rw [eH, eL]; exact hS
  rw [← eL]
  refine lv_iconst (v := nI 0) hx hb kd_W_findNextUses_0 (by decide) ?_
  refine lv_istore_n (lv' := [(2, .int (nI 0)), (0, .ref (q 0)), (1, .int (nI bb))]) hx hb kd_W_findNextUses_1 rfl hl (by decide) rfl (fun ls hl => ?_)
  have hc2 : ∀ (nn : Nat), ∀ (k : Nat) (ff1 : Nat → Int32), n - k < nn → (k ≤ n) → (∀ j, j < k → ff1 ((fun i => ad i / 2 ^ bb) j) = nI 400) → ∀ (H : Heap) (locs : List Loc), va_P (dC, dI) zk_cl [(q 0, zr_ob q n), (q 1, .inl (cI, 400, .inl fa)), (q 2, .inl (cI, 400, .inl fn)), (q 3, .inl (cI, 4096, .inl ff1))] H → va_D A [(q 0, zr_ob q n), (q 1, .inl (cI, 400, .inl fa)), (q 2, .inl (cI, 400, .inl fn)), (q 3, .inl (cI, 4096, .inl ff1))] → va_S A s.heap H locs → ∀ ls : Array Slot, lv_has ls 4 [(0, .ref (q 0)), (1, .int (nI bb)), (2, .int (nI k))] → W p l e rm_cr_findNextUses s m args below meth c H locs 0 0 Q (F0 m 2 ls []) := by
    intro nn
    induction nn with
    | zero => intro k ff1 hm; exact absurd hm (Nat.not_lt_zero _)
    | succ nn ih =>
      intro k ff1 hm hk h1 H locs hP hD hS ls hl
      refine lv_iload_n hx hb kd_W_findNextUses_2 rfl (lv_at hl 2 rfl) ?_
      refine lv_aload_n hx hb kd_W_findNextUses_3 rfl (lv_at hl 0 rfl) ?_
      refine va_get (D := (dC, dI)) (ci := 1) (v := .int (nI n)) (C := zk_RW) (T := zk_TW) (N := 5) hx hb hts kl_W hown hK hP 0 rfl rfl 1 (by decide) (hts _ kj_52) (fun _ h9 => h9) rfl kd_W_findNextUses_4 ?_
      refine zz_icmp_ge (tgt := 32) hx hb kd_W_findNextUses_7 (by decide) (by omega) (by omega) (fun c7 => ?_) (fun c7 => ?_)
      · skip
        refine lv_aload_n hx hb kd_W_findNextUses_32 rfl (lv_at hl 0 rfl) ?_
        refine va_get (D := (dC, dI)) (ci := 1) (v := .int (nI n)) (C := zk_RW) (T := zk_TW) (N := 5) hx hb hts kl_W hown hK hP 0 rfl rfl 1 (by decide) (hts _ kj_52) (fun _ h9 => h9) rfl kd_W_findNextUses_33 ?_
        refine lv_iconst (v := nI 1) hx hb kd_W_findNextUses_36 (by decide) ?_
        refine lv_isub hx hb kd_W_findNextUses_37 ?_
        refine zz_top (y := nI n - nI 1) (rfl) ?_
        refine lv_istore_n (lv' := [(2, .int (nI n - nI 1)), (0, .ref (q 0)), (1, .int (nI bb))]) hx hb kd_W_findNextUses_38 rfl hl (by decide) rfl (fun ls hl => ?_)
        have hc39 : ∀ (nn : Nat), ∀ (k : Nat) (fn1 : Nat → Int32) (ff1 : Nat → Int32), k < nn → (k ≤ n) → (∀ j, j < n → ∃ u, ff1 ((fun i => ad i / 2 ^ bb) j) = nI u ∧ zx_FU n (fun i => ad i / 2 ^ bb) k ((fun i => ad i / 2 ^ bb) j) u) → (∀ i, k ≤ i → i < n → ∃ u, fn1 i = nI u ∧ zx_NX n (fun i => ad i / 2 ^ bb) i u) → ∀ (H : Heap) (locs : List Loc), va_P (dC, dI) zk_cl [(q 0, zr_ob q n), (q 1, .inl (cI, 400, .inl fa)), (q 2, .inl (cI, 400, .inl fn1)), (q 3, .inl (cI, 4096, .inl ff1))] H → va_D A [(q 0, zr_ob q n), (q 1, .inl (cI, 400, .inl fa)), (q 2, .inl (cI, 400, .inl fn1)), (q 3, .inl (cI, 4096, .inl ff1))] → va_S A s.heap H locs → ∀ ls : Array Slot, lv_has ls 4 [(0, .ref (q 0)), (1, .int (nI bb)), (2, .int (nI k - nI 1))] → W p l e rm_cr_findNextUses s m args below meth c H locs 0 0 Q (F0 m 39 ls []) := by
          intro nn
          induction nn with
          | zero => intro k fn1 ff1 hm; exact absurd hm (Nat.not_lt_zero _)
          | succ nn ih39 =>
            intro k fn1 ff1 hm hk h1 h2 H locs hP hD hS ls hl
            refine lv_iload_n hx hb kd_W_findNextUses_39 rfl (lv_at hl 2 rfl) ?_
            refine lv_if_lt (tgt := 77) hx hb kd_W_findNextUses_40 (by decide) (fun c40 => ?_) (fun c40 => ?_)
            · skip
              have hk0 := zn_k1 (by omega) c40
              exact hret _ _ _ _ _ kd_W_findNextUses_77 hP hD hS (⟨fn1, ff1, rfl, (fun i h => h2 i (by omega) h)⟩)
            · skip
              have hk0 := zn_k0 c40
              rw [pk_sub hk0] at hl
              obtain ⟨u, hu1, hu2⟩ := h1 (k - 1) (by omega)
              refine lv_aload_n hx hb kd_W_findNextUses_43 rfl (lv_at hl 0 rfl) ?_
              refine va_get (D := (dC, dI)) (ci := 1) (v := .ref (q 1)) (C := zk_RW) (T := zk_TW) (N := 5) hx hb hts kl_W hown hK hP 0 rfl rfl 0 (by decide) (hts _ kj_51) (fun _ h9 => h9) rfl kd_W_findNextUses_44 ?_
              refine lv_iload_n hx hb kd_W_findNextUses_47 rfl (lv_at hl 2 rfl) ?_
              refine zz_iald hx hb hK hP 1 0 rfl rfl (k := k - 1) (by omega) (by decide) kd_W_findNextUses_48 ?_
              refine zz_top (y := nI (ad (k - 1))) ((hfa (k - 1) (by omega)).1) ?_
              refine lv_iload_n hx hb kd_W_findNextUses_49 rfl (lv_at hl 1 rfl) ?_
              refine lv_ishr hx hb kd_W_findNextUses_50 ?_
              refine zz_top (y := nI (ad (k - 1) / 2 ^ bb)) (zn_shr (by have := (hfa (k - 1) (by omega)).2; omega) (by omega)) ?_
              refine lv_istore_n (lv' := [(3, .int (nI (ad (k - 1) / 2 ^ bb))), (0, .ref (q 0)), (1, .int (nI bb)), (2, .int (nI (k - 1)))]) hx hb kd_W_findNextUses_51 rfl hl (by decide) rfl (fun ls hl => ?_)
              refine lv_aload_n hx hb kd_W_findNextUses_52 rfl (lv_at hl 1 rfl) ?_
              refine va_get (D := (dC, dI)) (ci := 1) (v := .ref (q 2)) (C := zk_RW) (T := zk_TW) (N := 5) hx hb hts kl_W hown hK hP 0 rfl rfl 2 (by decide) (hts _ kj_53) (fun _ h9 => h9) rfl kd_W_findNextUses_53 ?_
              refine lv_iload_n hx hb kd_W_findNextUses_56 rfl (lv_at hl 3 rfl) ?_
              refine lv_aload_n hx hb kd_W_findNextUses_57 rfl (lv_at hl 1 rfl) ?_
              refine va_get (D := (dC, dI)) (ci := 1) (v := .ref (q 3)) (C := zk_RW) (T := zk_TW) (N := 5) hx hb hts kl_W hown hK hP 0 rfl rfl 3 (by decide) (hts _ kj_54) (fun _ h9 => h9) rfl kd_W_findNextUses_58 ?_
              refine lv_iload_n hx hb kd_W_findNextUses_61 rfl (lv_at hl 0 rfl) ?_
              refine zz_iald hx hb hK hP 3 0 rfl rfl (k := ad (k - 1) / 2 ^ bb) (Nat.lt_of_le_of_lt (Nat.div_le_self _ _) (hfa (k - 1) (by omega)).2) (by decide) kd_W_findNextUses_62 ?_
              refine zz_iast hx hb hK hP hD hS 2 0 rfl rfl (k := k - 1) (by omega) (by decide) kd_W_findNextUses_63 (fun H locs hP hD hS => ?_)
              have hP : va_P (dC, dI) zk_cl [(q 0, zr_ob q n), (q 1, .inl (cI, 400, .inl fa)), (q 2, .inl (cI, 400, .inl (upd fn1 (k - 1) (ff1 (ad (k - 1) / 2 ^ bb))))), (q 3, .inl (cI, 4096, .inl ff1))] H := hP
              have hD : va_D A [(q 0, zr_ob q n), (q 1, .inl (cI, 400, .inl fa)), (q 2, .inl (cI, 400, .inl (upd fn1 (k - 1) (ff1 (ad (k - 1) / 2 ^ bb))))), (q 3, .inl (cI, 4096, .inl ff1))] := hD
              refine lv_aload_n hx hb kd_W_findNextUses_64 rfl (lv_at hl 1 rfl) ?_
              refine va_get (D := (dC, dI)) (ci := 1) (v := .ref (q 3)) (C := zk_RW) (T := zk_TW) (N := 5) hx hb hts kl_W hown hK hP 0 rfl rfl 3 (by decide) (hts _ kj_54) (fun _ h9 => h9) rfl kd_W_findNextUses_65 ?_
              refine lv_iload_n hx hb kd_W_findNextUses_68 rfl (lv_at hl 0 rfl) ?_
              refine lv_iload_n hx hb kd_W_findNextUses_69 rfl (lv_at hl 3 rfl) ?_
              refine zz_iast hx hb hK hP hD hS 3 0 rfl rfl (k := ad (k - 1) / 2 ^ bb) (Nat.lt_of_le_of_lt (Nat.div_le_self _ _) (hfa (k - 1) (by omega)).2) (by decide) kd_W_findNextUses_70 (fun H locs hP hD hS => ?_)
              have hP : va_P (dC, dI) zk_cl [(q 0, zr_ob q n), (q 1, .inl (cI, 400, .inl fa)), (q 2, .inl (cI, 400, .inl (upd fn1 (k - 1) (ff1 (ad (k - 1) / 2 ^ bb))))), (q 3, .inl (cI, 4096, .inl (upd ff1 (ad (k - 1) / 2 ^ bb) (nI (k - 1)))))] H := hP
              have hD : va_D A [(q 0, zr_ob q n), (q 1, .inl (cI, 400, .inl fa)), (q 2, .inl (cI, 400, .inl (upd fn1 (k - 1) (ff1 (ad (k - 1) / 2 ^ bb))))), (q 3, .inl (cI, 4096, .inl (upd ff1 (ad (k - 1) / 2 ^ bb) (nI (k - 1)))))] := hD
              refine lv_iinc (v := nI (k - 1) - nI 1) (lv' := [(2, .int (nI (k - 1) - nI 1)), (3, .int (nI (ad (k - 1) / 2 ^ bb))), (0, .ref (q 0)), (1, .int (nI bb))]) hx hb kd_W_findNextUses_71 hl (k := 3) rfl (by first | exact zn_pm _ | (show _ + _ = _; exact zn_pm _)) (by decide) rfl (fun ls hl => ?_)
              refine lv_goto (tgt := 39) hx hb kd_W_findNextUses_74 (by decide) ?_
              exact ih39 (k - 1) (upd fn1 (k - 1) (ff1 (ad (k - 1) / 2 ^ bb))) (upd ff1 (ad (k - 1) / 2 ^ bb) (nI (k - 1))) (by omega) (by omega) (zx_FU_s (bk := (fun i => ad i / 2 ^ bb)) hk0 hk h1) (by have := zx_nx_s (bk := (fun i => ad i / 2 ^ bb)) hk0 h2 hu2; rw [← hu1] at this; exact this) _ _ hP hD hS ls (lv_sub hl [2, 3, 0] rfl)
        exact hc39 _ n fn ff1 (Nat.lt_succ_self _) (by omega) (fun j h => ⟨400, h1 j (by omega), Or.inr ⟨rfl, fun i a b => by omega⟩⟩) (fun i a b => by omega) _ _ hP hD hS ls (lv_sub hl [1, 2, 0] rfl)
      · skip
        refine lv_aload_n hx hb kd_W_findNextUses_10 rfl (lv_at hl 0 rfl) ?_
        refine va_get (D := (dC, dI)) (ci := 1) (v := .ref (q 3)) (C := zk_RW) (T := zk_TW) (N := 5) hx hb hts kl_W hown hK hP 0 rfl rfl 3 (by decide) (hts _ kj_54) (fun _ h9 => h9) rfl kd_W_findNextUses_11 ?_
        refine lv_aload_n hx hb kd_W_findNextUses_14 rfl (lv_at hl 0 rfl) ?_
        refine va_get (D := (dC, dI)) (ci := 1) (v := .ref (q 1)) (C := zk_RW) (T := zk_TW) (N := 5) hx hb hts kl_W hown hK hP 0 rfl rfl 0 (by decide) (hts _ kj_51) (fun _ h9 => h9) rfl kd_W_findNextUses_15 ?_
        refine lv_iload_n hx hb kd_W_findNextUses_18 rfl (lv_at hl 2 rfl) ?_
        refine zz_iald hx hb hK hP 1 0 rfl rfl (k := k) (by omega) (by decide) kd_W_findNextUses_19 ?_
        refine zz_top (y := nI (ad k)) ((hfa k c7).1) ?_
        refine lv_iload_n hx hb kd_W_findNextUses_20 rfl (lv_at hl 1 rfl) ?_
        refine lv_ishr hx hb kd_W_findNextUses_21 ?_
        refine zz_top (y := nI (ad k / 2 ^ bb)) (zn_shr (by have := (hfa k c7).2; omega) (by omega)) ?_
        refine lv_sipush (v := nI 400) hx hb kd_W_findNextUses_22 (by decide) ?_
        refine zz_iast hx hb hK hP hD hS 3 0 rfl rfl (k := ad k / 2 ^ bb) (Nat.lt_of_le_of_lt (Nat.div_le_self _ _) (hfa k c7).2) (by decide) kd_W_findNextUses_25 (fun H locs hP hD hS => ?_)
        have hP : va_P (dC, dI) zk_cl [(q 0, zr_ob q n), (q 1, .inl (cI, 400, .inl fa)), (q 2, .inl (cI, 400, .inl fn)), (q 3, .inl (cI, 4096, .inl (upd ff1 (ad k / 2 ^ bb) (nI 400))))] H := hP
        have hD : va_D A [(q 0, zr_ob q n), (q 1, .inl (cI, 400, .inl fa)), (q 2, .inl (cI, 400, .inl fn)), (q 3, .inl (cI, 4096, .inl (upd ff1 (ad k / 2 ^ bb) (nI 400))))] := hD
        refine lv_iinc (v := nI (k + 1)) (lv' := [(2, .int (nI (k + 1))), (0, .ref (q 0)), (1, .int (nI bb))]) hx hb kd_W_findNextUses_26 hl (k := 2) rfl (by first | exact nI_1 _ | (show _ + _ = _; exact nI_1 _)) (by decide) rfl (fun ls hl => ?_)
        refine lv_goto (tgt := 2) hx hb kd_W_findNextUses_29 (by decide) ?_
        exact ih (k + 1) (upd ff1 (ad k / 2 ^ bb) (nI 400)) (by omega) (by omega) (zu_app (b := (fun i => ad i / 2 ^ bb)) h1) _ _ hP hD hS ls (lv_sub hl [1, 2, 0] rfl)
  exact hc2 _ 0 ff (Nat.lt_succ_self _) (by omega) (fun j h => by omega) _ _ hP hD hS ls (lv_sub hl [1, 2, 0] rfl)
