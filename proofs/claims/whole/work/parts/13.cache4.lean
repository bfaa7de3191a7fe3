def rm_cc_init : Room := { frames := 1, cells := 4, slots := 400, locals := 20 }
set_option maxHeartbeats 4000000 in
set_option maxRecDepth 100000 in
/-- a new cache -/
theorem cc_init (l : Launch) (dC : Nat → ClassId) (dI : Nat → Nat → Nat) (cI cZ cO cL : ClassId) (h : Nat)  : zz_Mv l ky_C_init kw_C_init rm_cc_init (dC, dI) (zz_ty cI cZ cO cL) [(h, .inr (0, [.int (nI 0), .int (nI 0), .int (nI 0), .int (nI 0), .null, .null, .null, .null, .int (nI 0), .int (nI 0), .int (nI 0), .int (nI 0)]))] [.ref h] (fun (w : va_W) => ∃ (q2 : Nat → Nat), w = [(q2 0, zc_ob q2 0 0 0 0 (nI 0) (nI 0) (nI 0) (nI 0)), (q2 1, .inl (cI, 128, .inl (fun _ => 0))), (q2 2, .inl (cZ, 128, .inl (fun _ => 0))), (q2 3, .inl (cI, 128, .inl (fun _ => 0))), (q2 4, .inl (cI, 16, .inl (fun _ => 0)))] ∧ (q2 0 = h)) 4 400 := by
  refine zz_entry_v (cc := kb_C_init) (maxL := 1) (own := zk_RC) (by decide) rfl rfl (Nat.le_of_ble_eq_true rfl) ?_
  intro p e s m args below meth c Q hx hb hml hown hts hin hP hK A hD hA hS hret ls hl
  have hl : lv_has ls 1 [(0, .ref h)] := hl
  obtain ⟨H, eH⟩ : ∃ z, z = s.heap := ⟨_, rfl⟩
  obtain ⟨locs, eL⟩ : ∃ z : List Loc, z = [] := ⟨_, rfl⟩
  rw [← eH] at hP ⊢
  have hS : va_S A s.heap H locs := by rw [eH, eL]; exact hS
  rw [← eL]
  refine lv_aload_n hx hb kd_C_init_0 rfl (lv_at hl 0 rfl) ?_
  refine W.objInit hx hb hown (hts _ kj_141) (hts _ kj_43) (hts _ kj_44) rfl (by rw [hml]; exact hl.1) rfl kd_C_init_1 (Nat.le_of_ble_eq_true rfl) (Nat.le_of_ble_eq_true rfl) ?_
  refine W.eq (g2 := F0 m 4 ls []) rfl ?_
  refine lv_aload_n hx hb kd_C_init_4 rfl (lv_at hl 0 rfl) ?_
  refine lv_sipush (v := nI 128) hx hb kd_C_init_5 (by decide) ?_
  refine va_newa (atype := .int) (ty := .int) (a0 := (128, .inl (fun _ => 0))) hx hb (hts _ kj_61) rfl hK hP hD hS hA (fun _ => rfl) (by decide) (by decide) (by decide) (by decide) (by decide) kd_C_init_8 (fun q_1 cA_2 H hK hP hD hS => ?_)
  obtain rfl : cI = cA_2 := zz_Keq hK 0 4 rfl rfl (by decide)
  have hK := hK.sub (tys' := zz_ty cI cZ cO cL) [0, 1, 2, 3] rfl
  have hP : va_P (dC, dI) zk_cl [(h, .inr (0, [.int (nI 0), .int (nI 0), .int (nI 0), .int (nI 0), .null, .null, .null, .null, .int (nI 0), .int (nI 0), .int (nI 0), .int (nI 0)])), (q_1, .inl (cI, 128, .inl (fun _ => 0)))] H := hP
  have hD : va_D A [(h, .inr (0, [.int (nI 0), .int (nI 0), .int (nI 0), .int (nI 0), .null, .null, .null, .null, .int (nI 0), .int (nI 0), .int (nI 0), .int (nI 0)])), (q_1, .inl (cI, 128, .inl (fun _ => 0)))] := hD
  refine W.widen (k := 1) (n := 128) (by decide) (by decide) ?_
  refine va_putF (D := (dC, dI)) (ci := 0) (v := .ref q_1) (ty := .array .int) (C := zk_RC) (T := zk_TC) (N := 12) hx hb hts kl_C zk_tC zk_kC zk_nC hown hK hP hD hS 0 rfl rfl 4 (by decide) (hts _ kj_146) (fun _ h9 => h9) rfl hin rfl (by decide +kernel) rfl rfl (Nat.le_of_ble_eq_true rfl) kd_C_init_10 (fun H locs hP hD hS => ?_)
  have hP : va_P (dC, dI) zk_cl [(h, .inr (0, [.int (nI 0), .int (nI 0), .int (nI 0), .int (nI 0), .ref q_1, .null, .null, .null, .int (nI 0), .int (nI 0), .int (nI 0), .int (nI 0)])), (q_1, .inl (cI, 128, .inl (fun _ => 0)))] H := hP
  have hD : va_D A [(h, .inr (0, [.int (nI 0), .int (nI 0), .int (nI 0), .int (nI 0), .ref q_1, .null, .null, .null, .int (nI 0), .int (nI 0), .int (nI 0), .int (nI 0)])), (q_1, .inl (cI, 128, .inl (fun _ => 0)))] := hD
  refine lv_aload_n hx hb kd_C_init_13 rfl (lv_at hl 0 rfl) ?_
  refine lv_sipush (v := nI 128) hx hb kd_C_init_14 (by decide) ?_
  refine va_newa (atype := .boolean) (ty := .boolean) (a0 := (128, .inl (fun _ => 0))) hx hb (hts _ kj_170) rfl hK hP hD hS hA (fun _ => rfl) (by decide) (by decide) (by decide) (by decide) (by decide) kd_C_init_17 (fun q_3 cA_4 H hK hP hD hS => ?_)
  obtain rfl : cZ = cA_4 := zz_Keq hK 1 4 rfl rfl (by decide)
  have hK := hK.sub (tys' := zz_ty cI cZ cO cL) [0, 1, 2, 3] rfl
  have hP : va_P (dC, dI) zk_cl [(h, .inr (0, [.int (nI 0), .int (nI 0), .int (nI 0), .int (nI 0), .ref q_1, .null, .null, .null, .int (nI 0), .int (nI 0), .int (nI 0), .int (nI 0)])), (q_1, .inl (cI, 128, .inl (fun _ => 0))), (q_3, .inl (cZ, 128, .inl (fun _ => 0)))] H := hP
  have hD : va_D A [(h, .inr (0, [.int (nI 0), .int (nI 0), .int (nI 0), .int (nI 0), .ref q_1, .null, .null, .null, .int (nI 0), .int (nI 0), .int (nI 0), .int (nI 0)])), (q_1, .inl (cI, 128, .inl (fun _ => 0))), (q_3, .inl (cZ, 128, .inl (fun _ => 0)))] := hD
  refine W.widen (k := 2) (n := 256) (by decide) (by decide) ?_
  refine va_putF (D := (dC, dI)) (ci := 0) (v := .ref q_3) (ty := .array .boolean) (C := zk_RC) (T := zk_TC) (N := 12) hx hb hts kl_C zk_tC zk_kC zk_nC hown hK hP hD hS 0 rfl rfl 5 (by decide) (hts _ kj_147) (fun _ h9 => h9) rfl hin rfl (by decide +kernel) rfl rfl (Nat.le_of_ble_eq_true rfl) kd_C_init_19 (fun H locs hP hD hS => ?_)
  have hP : va_P (dC, dI) zk_cl [(h, .inr (0, [.int (nI 0), .int (nI 0), .int (nI 0), .int (nI 0), .ref q_1, .ref q_3, .null, .null, .int (nI 0), .int (nI 0), .int (nI 0), .int (nI 0)])), (q_1, .inl (cI, 128, .inl (fun _ => 0))), (q_3, .inl (cZ, 128, .inl (fun _ => 0)))] H := hP
  have hD : va_D A [(h, .inr (0, [.int (nI 0), .int (nI 0), .int (nI 0), .int (nI 0), .ref q_1, .ref q_3, .null, .null, .int (nI 0), .int (nI 0), .int (nI 0), .int (nI 0)])), (q_1, .inl (cI, 128, .inl (fun _ => 0))), (q_3, .inl (cZ, 128, .inl (fun _ => 0)))] := hD
  refine lv_aload_n hx hb kd_C_init_22 rfl (lv_at hl 0 rfl) ?_
  refine lv_sipush (v := nI 128) hx hb kd_C_init_23 (by decide) ?_
  refine va_newa (atype := .int) (ty := .int) (a0 := (128, .inl (fun _ => 0))) hx hb (hts _ kj_61) rfl hK hP hD hS hA (fun _ => rfl) (by decide) (by decide) (by decide) (by decide) (by decide) kd_C_init_26 (fun q_5 cA_6 H hK hP hD hS => ?_)
  obtain rfl : cI = cA_6 := zz_Keq hK 0 4 rfl rfl (by decide)
  have hK := hK.sub (tys' := zz_ty cI cZ cO cL) [0, 1, 2, 3] rfl
  have hP : va_P (dC, dI) zk_cl [(h, .inr (0, [.int (nI 0), .int (nI 0), .int (nI 0), .int (nI 0), .ref q_1, .ref q_3, .null, .null, .int (nI 0), .int (nI 0), .int (nI 0), .int (nI 0)])), (q_1, .inl (cI, 128, .inl (fun _ => 0))), (q_3, .inl (cZ, 128, .inl (fun _ => 0))), (q_5, .inl (cI, 128, .inl (fun _ => 0)))] H := hP
  have hD : va_D A [(h, .inr (0, [.int (nI 0), .int (nI 0), .int (nI 0), .int (nI 0), .ref q_1, .ref q_3, .null, .null, .int (nI 0), .int (nI 0), .int (nI 0), .int (nI 0)])), (q_1, .inl (cI, 128, .inl (fun _ => 0))), (q_3, .inl (cZ, 128, .inl (fun _ => 0))), (q_5, .inl (cI, 128, .inl (fun _ => 0)))] := hD
  refine W.widen (k := 3) (n := 384) (by decide) (by decide) ?_
  refine va_putF (D := (dC, dI)) (ci := 0) (v := .ref q_5) (ty := .array .int) (C := zk_RC) (T := zk_TC) (N := 12) hx hb hts kl_C zk_tC zk_kC zk_nC hown hK hP hD hS 0 rfl rfl 6 (by decide) (hts _ kj_148) (fun _ h9 => h9) rfl hin rfl (by decide +kernel) rfl rfl (Nat.le_of_ble_eq_true rfl) kd_C_init_28 (fun H locs hP hD hS => ?_)
  have hP : va_P (dC, dI) zk_cl [(h, .inr (0, [.int (nI 0), .int (nI 0), .int (nI 0), .int (nI 0), .ref q_1, .ref q_3, .ref q_5, .null, .int (nI 0), .int (nI 0), .int (nI 0), .int (nI 0)])), (q_1, .inl (cI, 128, .inl (fun _ => 0))), (q_3, .inl (cZ, 128, .inl (fun _ => 0))), (q_5, .inl (cI, 128, .inl (fun _ => 0)))] H := hP
  have hD : va_D A [(h, .inr (0, [.int (nI 0), .int (nI 0), .int (nI 0), .int (nI 0), .ref q_1, .ref q_3, .ref q_5, .null, .int (nI 0), .int (nI 0), .int (nI 0), .int (nI 0)])), (q_1, .inl (cI, 128, .inl (fun _ => 0))), (q_3, .inl (cZ, 128, .inl (fun _ => 0))), (q_5, .inl (cI, 128, .inl (fun _ => 0)))] := hD
  refine lv_aload_n hx hb kd_C_init_31 rfl (lv_at hl 0 rfl) ?_
  refine lv_bipush (v := nI 16) hx hb kd_C_init_32 (by decide) ?_
  refine va_newa (atype := .int) (ty := .int) (a0 := (16, .inl (fun _ => 0))) hx hb (hts _ kj_61) rfl hK hP hD hS hA (fun _ => rfl) (by decide) (by decide) (by decide) (by decide) (by decide) kd_C_init_34 (fun q_7 cA_8 H hK hP hD hS => ?_)
  obtain rfl : cI = cA_8 := zz_Keq hK 0 4 rfl rfl (by decide)
  have hK := hK.sub (tys' := zz_ty cI cZ cO cL) [0, 1, 2, 3] rfl
  have hP : va_P (dC, dI) zk_cl [(h, .inr (0, [.int (nI 0), .int (nI 0), .int (nI 0), .int (nI 0), .ref q_1, .ref q_3, .ref q_5, .null, .int (nI 0), .int (nI 0), .int (nI 0), .int (nI 0)])), (q_1, .inl (cI, 128, .inl (fun _ => 0))), (q_3, .inl (cZ, 128, .inl (fun _ => 0))), (q_5, .inl (cI, 128, .inl (fun _ => 0))), (q_7, .inl (cI, 16, .inl (fun _ => 0)))] H := hP
  have hD : va_D A [(h, .inr (0, [.int (nI 0), .int (nI 0), .int (nI 0), .int (nI 0), .ref q_1, .ref q_3, .ref q_5, .null, .int (nI 0), .int (nI 0), .int (nI 0), .int (nI 0)])), (q_1, .inl (cI, 128, .inl (fun _ => 0))), (q_3, .inl (cZ, 128, .inl (fun _ => 0))), (q_5, .inl (cI, 128, .inl (fun _ => 0))), (q_7, .inl (cI, 16, .inl (fun _ => 0)))] := hD
  refine W.widen (k := 4) (n := 400) (by decide) (by decide) ?_
  refine va_putF (D := (dC, dI)) (ci := 0) (v := .ref q_7) (ty := .array .int) (C := zk_RC) (T := zk_TC) (N := 12) hx hb hts kl_C zk_tC zk_kC zk_nC hown hK hP hD hS 0 rfl rfl 7 (by decide) (hts _ kj_149) (fun _ h9 => h9) rfl hin rfl (by decide +kernel) rfl rfl (Nat.le_of_ble_eq_true rfl) kd_C_init_36 (fun H locs hP hD hS => ?_)
  have hP : va_P (dC, dI) zk_cl [(h, .inr (0, [.int (nI 0), .int (nI 0), .int (nI 0), .int (nI 0), .ref q_1, .ref q_3, .ref q_5, .ref q_7, .int (nI 0), .int (nI 0), .int (nI 0), .int (nI 0)])), (q_1, .inl (cI, 128, .inl (fun _ => 0))), (q_3, .inl (cZ, 128, .inl (fun _ => 0))), (q_5, .inl (cI, 128, .inl (fun _ => 0))), (q_7, .inl (cI, 16, .inl (fun _ => 0)))] H := hP
  have hD : va_D A [(h, .inr (0, [.int (nI 0), .int (nI 0), .int (nI 0), .int (nI 0), .ref q_1, .ref q_3, .ref q_5, .ref q_7, .int (nI 0), .int (nI 0), .int (nI 0), .int (nI 0)])), (q_1, .inl (cI, 128, .inl (fun _ => 0))), (q_3, .inl (cZ, 128, .inl (fun _ => 0))), (q_5, .inl (cI, 128, .inl (fun _ => 0))), (q_7, .inl (cI, 16, .inl (fun _ => 0)))] := hD
  exact hret _ _ _ _ _ kd_C_init_39 hP hD hS (⟨zq_mk h q_1 q_3 q_5 q_7, rfl, (rfl)⟩)

def rm_cc_bringIn : Room := { frames := 3, cells := 0, slots := 0, locals := 67 }
set_option maxHeartbeats 4000000 in
set_option maxRecDepth 100000 in
/-- a block comes to the set -/
theorem cc_bringIn (l : Launch) (dC : Nat → ClassId) (dI : Nat → Nat → Nat) (cI cZ cO cL : ClassId) (q : Nat → Nat) (sb : Nat) (wy : Nat) (kd : Nat) (bb : Nat) (hi : Int32) (mi : Int32) (vi : Int32) (wb : Int32) (fb : Nat → Int32) (fd : Nat → Int32) (fs : Nat → Int32) (ft : Nat → Int32) (a : Nat) (t : Nat) (x : Int32) (hwy : 1 ≤ wy ∧ wy ≤ 8) (hk2 : kd = 2 → wy = 1 ∨ wy = 2 ∨ wy = 4 ∨ wy = 8) (ha : a < 16) (hft : ft a = nI t) (ht : t < 256) (hkd : kd ≤ 2) (hbit : ∀ j, j < 128 → fd j = 0 ∨ fd j = 1) : zz_Mi l ky_C_bringIn kw_C_bringIn rm_cc_bringIn (dC, dI) (zz_ty cI cZ cO cL) [(q 0, zc_ob q sb wy kd bb hi mi vi wb), (q 1, .inl (cI, 128, .inl fb)), (q 2, .inl (cZ, 128, .inl fd)), (q 3, .inl (cI, 128, .inl fs)), (q 4, .inl (cI, 16, .inl ft))] [.ref (q 0), .int (nI a), .int x] (fun (r : Int32) (w : va_W) => ∃ (pl : Nat), ∃ (vi2 : Int32), ∃ (wb2 : Int32), w = [(q 0, zc_ob q sb wy kd bb hi mi vi2 wb2), (q 1, .inl (cI, 128, .inl (upd fb (a * wy + pl) x))), (q 2, .inl (cZ, 128, .inl (upd fd (a * wy + pl) (nI 0)))), (q 3, .inl (cI, 128, .inl fs)), (q 4, .inl (cI, 16, .inl ft))] ∧ (r = nI pl) ∧ (zc_bi wy kd (fun k => fb (a * wy + k)) (fun k => fs (a * wy + k)) (fun k => fd (a * wy + k)) (zt_b t) pl vi wb vi2 wb2)) 0 0 := by
  refine zz_entry_i (cc := kb_C_bringIn) (maxL := 5) (own := zk_RC) (by decide) rfl rfl (Nat.le_of_ble_eq_true rfl) ?_
  intro p e s m args below meth c Q hx hb hml hown hts hin hP hK A hD hA hS hret ls hl
  have hl : lv_has ls 5 [(0, .ref (q 0)), (1, .int (nI a)), (2, .int x)] := hl
  obtain ⟨H, eH⟩ : ∃ z, z = s.heap := ⟨_, rfl⟩
  obtain ⟨locs, eL⟩ : ∃ z : List Loc, z = [] := ⟨_, rfl⟩
  rw [← eH] at hP ⊢
  have hS : va_S A s.heap H locs := by rw [eH, eL]; exact hS
  rw [← eL]
  have hc63 : ∀ (pl : Nat) (vi1 : Int32) (wb1 : Int32), (zc_bi wy kd (fun k => fb (a * wy + k)) (fun k => fs (a * wy + k)) (fun k => fd (a * wy + k)) (zt_b t) pl vi wb vi1 wb1) → ∀ (H : Heap) (locs : List Loc), va_P (dC, dI) zk_cl [(q 0, zc_ob q sb wy kd bb hi mi vi1 wb1), (q 1, .inl (cI, 128, .inl fb)), (q 2, .inl (cZ, 128, .inl fd)), (q 3, .inl (cI, 128, .inl fs)), (q 4, .inl (cI, 16, .inl ft))] H → va_D A [(q 0, zc_ob q sb wy kd bb hi mi vi1 wb1), (q 1, .inl (cI, 128, .inl fb)), (q 2, .inl (cZ, 128, .inl fd)), (q 3, .inl (cI, 128, .inl fs)), (q 4, .inl (cI, 16, .inl ft))] → va_S A s.heap H locs → ∀ ls : Array Slot, lv_has ls 5 [(0, .ref (q 0)), (1, .int (nI a)), (2, .int x), (3, .int (nI pl))] → W p l e rm_cc_bringIn s m args below meth c H locs 0 0 Q (F0 m 63 ls []) := by
    intro pl vi1 wb1 hbi H locs hP hD hS ls hl
    have hpl := hbi.1
    have hi0 := zu_ix ha hwy.2
    refine lv_aload_n hx hb kd_C_bringIn_63 rfl (lv_at hl 0 rfl) ?_
    refine lv_iload_n hx hb kd_C_bringIn_64 rfl (lv_at hl 1 rfl) ?_
    refine lv_iload_n hx hb kd_C_bringIn_65 rfl (lv_at hl 3 rfl) ?_
    refine zz_iV (As := [.int (nI a), .int (nI pl)]) (rest := []) (wc := [(q 0, zc_ob q sb wy kd bb hi mi vi1 wb1)]) (wr := [(q 1, .inl (cI, 128, .inl fb)), (q 2, .inl (cZ, 128, .inl fd)), (q 3, .inl (cI, 128, .inl fs)), (q 4, .inl (cI, 16, .inl ft))]) ⟨hx, hb, hml, hown, hts⟩ (cc_slotOf l dC dI cI cZ cO cL q sb wy kd bb hi mi vi1 wb1 a pl ) (zz_cwV hts kj_219 kj_33 kj_217 kj_218 kj_3 kz_C_slotOf rfl rfl ⟨Nat.le_of_ble_eq_true rfl, Nat.le_of_ble_eq_true rfl⟩) (hP.sub [1, 2, 3, 4, 0] rfl) (hD.sub [1, 2, 3, 4, 0] (by decide) rfl) hK hS hA (q0 := 0) rfl rfl rfl rfl hl.1 rfl (Nat.le_of_ble_eq_true rfl) kd_C_bringIn_66 ⟨by decide, by decide⟩ (fun r9 w9 H locs hw hP hD hS => ?_)
    obtain ⟨rfl, rfl⟩ := hw
    have hP : va_P (dC, dI) zk_cl [(q 1, .inl (cI, 128, .inl fb)), (q 2, .inl (cZ, 128, .inl fd)), (q 3, .inl (cI, 128, .inl fs)), (q 4, .inl (cI, 16, .inl ft)), (q 0, zc_ob q sb wy kd bb hi mi vi1 wb1)] H := hP
    have hD : va_D A [(q 1, .inl (cI, 128, .inl fb)), (q 2, .inl (cZ, 128, .inl fd)), (q 3, .inl (cI, 128, .inl fs)), (q 4, .inl (cI, 16, .inl ft)), (q 0, zc_ob q sb wy kd bb hi mi vi1 wb1)] := hD
    refine lv_istore (lv' := [(4, .int (nI (a * wy + pl))), (0, .ref (q 0)), (1, .int (nI a)), (2, .int x), (3, .int (nI pl))]) hx hb kd_C_bringIn_69 hl (by decide) rfl (fun ls hl => ?_)
    refine lv_aload_n hx hb kd_C_bringIn_71 rfl (lv_at hl 1 rfl) ?_
    refine va_get (D := (dC, dI)) (ci := 0) (v := .ref (q 1)) (C := zk_RC) (T := zk_TC) (N := 12) hx hb hts kl_C hown hK hP 4 rfl rfl 4 (by decide) (hts _ kj_146) (fun _ h9 => h9) rfl kd_C_bringIn_72 ?_
    refine lv_iload hx hb kd_C_bringIn_75 (lv_at hl 0 rfl) ?_
    refine lv_iload_n hx hb kd_C_bringIn_77 rfl (lv_at hl 3 rfl) ?_
    refine zz_iast hx hb hK hP hD hS 0 0 rfl rfl (k := a * wy + pl) (by omega) (by decide) kd_C_bringIn_78 (fun H locs hP hD hS => ?_)
    have hP : va_P (dC, dI) zk_cl [(q 1, .inl (cI, 128, .inl (upd fb (a * wy + pl) x))), (q 2, .inl (cZ, 128, .inl fd)), (q 3, .inl (cI, 128, .inl fs)), (q 4, .inl (cI, 16, .inl ft)), (q 0, zc_ob q sb wy kd bb hi mi vi1 wb1)] H := hP
    have hD : va_D A [(q 1, .inl (cI, 128, .inl (upd fb (a * wy + pl) x))), (q 2, .inl (cZ, 128, .inl fd)), (q 3, .inl (cI, 128, .inl fs)), (q 4, .inl (cI, 16, .inl ft)), (q 0, zc_ob q sb wy kd bb hi mi vi1 wb1)] := hD
    refine lv_aload_n hx hb kd_C_bringIn_79 rfl (lv_at hl 1 rfl) ?_
    refine va_get (D := (dC, dI)) (ci := 0) (v := .ref (q 2)) (C := zk_RC) (T := zk_TC) (N := 12) hx hb hts kl_C hown hK hP 4 rfl rfl 5 (by decide) (hts _ kj_147) (fun _ h9 => h9) rfl kd_C_bringIn_80 ?_
    refine lv_iload hx hb kd_C_bringIn_83 (lv_at hl 0 rfl) ?_
    refine lv_iconst (v := nI 0) hx hb kd_C_bringIn_85 (by decide) ?_
    refine zz_zast hx hb hK hP hD hS 1 1 rfl rfl (k := a * wy + pl) (by omega) (by decide) (Or.inl rfl) kd_C_bringIn_86 (fun H locs hP hD hS => ?_)
    have hP : va_P (dC, dI) zk_cl [(q 1, .inl (cI, 128, .inl (upd fb (a * wy + pl) x))), (q 2, .inl (cZ, 128, .inl (upd fd (a * wy + pl) (nI 0)))), (q 3, .inl (cI, 128, .inl fs)), (q 4, .inl (cI, 16, .inl ft)), (q 0, zc_ob q sb wy kd bb hi mi vi1 wb1)] H := hP
    have hD : va_D A [(q 1, .inl (cI, 128, .inl (upd fb (a * wy + pl) x))), (q 2, .inl (cZ, 128, .inl (upd fd (a * wy + pl) (nI 0)))), (q 3, .inl (cI, 128, .inl fs)), (q 4, .inl (cI, 16, .inl ft)), (q 0, zc_ob q sb wy kd bb hi mi vi1 wb1)] := hD
    refine lv_iload_n hx hb kd_C_bringIn_87 rfl (lv_at hl 4 rfl) ?_
    exact hret _ _ _ _ _ _ kd_C_bringIn_88 (hP.sub [4, 0, 1, 2, 3] rfl) (hD.sub [4, 0, 1, 2, 3] (by decide) rfl) hS (⟨pl, vi1, wb1, rfl, rfl, (hbi)⟩)
  refine lv_aload_n hx hb kd_C_bringIn_0 rfl (lv_at hl 0 rfl) ?_
  refine lv_iload_n hx hb kd_C_bringIn_1 rfl (lv_at hl 1 rfl) ?_
  refine lv_iconst (v := (-1)) hx hb kd_C_bringIn_2 (by decide) ?_
  refine zz_iV (As := [.int (nI a), .int (-1)]) (rest := []) (wc := [(q 0, zc_ob q sb wy kd bb hi mi vi wb), (q 1, .inl (cI, 128, .inl fb))]) (wr := [(q 2, .inl (cZ, 128, .inl fd)), (q 3, .inl (cI, 128, .inl fs)), (q 4, .inl (cI, 16, .inl ft))]) ⟨hx, hb, hml, hown, hts⟩ (cc_findPlace l dC dI cI cZ cO cL q sb wy kd bb hi mi vi wb fb a (-1) (hwy.2) (zu_ix ha hwy.2)) (zz_cwV hts kj_212 kj_33 kj_210 kj_211 kj_2 kz_C_findPlace rfl rfl ⟨Nat.le_of_ble_eq_true rfl, Nat.le_of_ble_eq_true rfl⟩) (hP.sub [2, 3, 4, 0, 1] rfl) (hD.sub [2, 3, 4, 0, 1] (by decide) rfl) hK hS hA (q0 := 0) rfl rfl rfl rfl hl.1 rfl (Nat.le_of_ble_eq_true rfl) kd_C_bringIn_3 ⟨by decide, by decide⟩ (fun r9 w9 H locs hw hP hD hS => ?_)
  generalize r9 = r0 at hw ⊢
  obtain ⟨rfl, fp3⟩ := hw
  have hP : va_P (dC, dI) zk_cl [(q 2, .inl (cZ, 128, .inl fd)), (q 3, .inl (cI, 128, .inl fs)), (q 4, .inl (cI, 16, .inl ft)), (q 0, zc_ob q sb wy kd bb hi mi vi wb), (q 1, .inl (cI, 128, .inl fb))] H := hP
  have hD : va_D A [(q 2, .inl (cZ, 128, .inl fd)), (q 3, .inl (cI, 128, .inl fs)), (q 4, .inl (cI, 16, .inl ft)), (q 0, zc_ob q sb wy kd bb hi mi vi wb), (q 1, .inl (cI, 128, .inl fb))] := hD
  refine lv_istore_n (lv' := [(3, .int r0), (0, .ref (q 0)), (1, .int (nI a)), (2, .int x)]) hx hb kd_C_bringIn_6 rfl hl (by decide) rfl (fun ls hl => ?_)
  refine lv_iload_n hx hb kd_C_bringIn_7 rfl (lv_at hl 0 rfl) ?_
  refine lv_iconst (v := (-1)) hx hb kd_C_bringIn_8 (by decide) ?_
  refine lv_icmp_ne (tgt := 63) hx hb kd_C_bringIn_9 (by decide) (fun c9 => ?_) (fun c9 => ?_)
  · skip
    obtain ⟨pl0, hpl0, rfl⟩ := zf_FP_lt fp3 c9
    exact hc63 pl0 vi wb  (by first | exact ⟨hpl0, Or.inl ⟨fp3, rfl, rfl⟩⟩ | exact ⟨hpl, Or.inr ⟨c9 ▸ fp3, hv, rfl, Or.inl ⟨c50, rfl⟩⟩⟩ | exact ⟨hpl, Or.inr ⟨c9 ▸ fp3, hv, rfl, Or.inr ⟨c50, rfl⟩⟩⟩) _ _ (hP.sub [3, 4, 0, 1, 2] rfl) (hD.sub [3, 4, 0, 1, 2] (by decide) rfl) hS ls (lv_sub hl [1, 2, 3, 0] rfl)
  · skip
    have hc33 : ∀ (pl : Nat), (pl < wy) → ((kd = 2 ∧ pl = zt_pt (zt_b t) 4 (wy / 2) 1 0) ∨ (kd ≠ 2 ∧ zf_AM (fun k => fs (a * wy + k)) wy pl)) → ∀ (H : Heap) (locs : List Loc), va_P (dC, dI) zk_cl [(q 0, zc_ob q sb wy kd bb hi mi vi wb), (q 1, .inl (cI, 128, .inl fb)), (q 2, .inl (cZ, 128, .inl fd)), (q 3, .inl (cI, 128, .inl fs)), (q 4, .inl (cI, 16, .inl ft))] H → va_D A [(q 0, zc_ob q sb wy kd bb hi mi vi wb), (q 1, .inl (cI, 128, .inl fb)), (q 2, .inl (cZ, 128, .inl fd)), (q 3, .inl (cI, 128, .inl fs)), (q 4, .inl (cI, 16, .inl ft))] → va_S A s.heap H locs → ∀ ls : Array Slot, lv_has ls 5 [(0, .ref (q 0)), (1, .int (nI a)), (2, .int x)] → W p l e rm_cc_bringIn s m args below meth c H locs 0 0 Q (F0 m 33 ls [.int (nI pl)]) := by
      intro pl hpl hv H locs hP hD hS ls hl
      have hi0 := zu_ix ha hwy.2
      refine lv_istore_n (lv' := [(3, .int (nI pl)), (0, .ref (q 0)), (1, .int (nI a)), (2, .int x)]) hx hb kd_C_bringIn_33 rfl hl (by decide) rfl (fun ls hl => ?_)
      refine lv_aload_n hx hb kd_C_bringIn_34 rfl (lv_at hl 1 rfl) ?_
      refine lv_dup hx hb kd_C_bringIn_35 rfl ?_
      refine va_get (D := (dC, dI)) (ci := 0) (v := .int vi) (C := zk_RC) (T := zk_TC) (N := 12) hx hb hts kl_C hown hK hP 0 rfl rfl 10 (by decide) (hts _ kj_154) (fun _ h9 => h9) rfl kd_C_bringIn_36 ?_
      refine lv_iconst (v := nI 1) hx hb kd_C_bringIn_39 (by decide) ?_
      refine lv_iadd hx hb kd_C_bringIn_40 ?_
      refine va_put (D := (dC, dI)) (ci := 0) (v := .int (vi + (nI 1))) (ty := .int) (C := zk_RC) (T := zk_TC) (N := 12) hx hb hts kl_C zk_tC zk_kC zk_nC hown hK hP hD hS 0 rfl rfl 10 (by decide) (hts _ kj_154) (fun _ h9 => h9) rfl (by decide +kernel) rfl rfl (Nat.le_of_ble_eq_true rfl) kd_C_bringIn_41 (fun H locs hP hD hS => ?_)
      have hP : va_P (dC, dI) zk_cl [(q 0, zc_ob q sb wy kd bb hi mi (vi + (nI 1)) wb), (q 1, .inl (cI, 128, .inl fb)), (q 2, .inl (cZ, 128, .inl fd)), (q 3, .inl (cI, 128, .inl fs)), (q 4, .inl (cI, 16, .inl ft))] H := hP
      have hD : va_D A [(q 0, zc_ob q sb wy kd bb hi mi (vi + (nI 1)) wb), (q 1, .inl (cI, 128, .inl fb)), (q 2, .inl (cZ, 128, .inl fd)), (q 3, .inl (cI, 128, .inl fs)), (q 4, .inl (cI, 16, .inl ft))] := hD
      refine lv_aload_n hx hb kd_C_bringIn_44 rfl (lv_at hl 1 rfl) ?_
      refine lv_iload_n hx hb kd_C_bringIn_45 rfl (lv_at hl 2 rfl) ?_
      refine lv_iload_n hx hb kd_C_bringIn_46 rfl (lv_at hl 0 rfl) ?_
      refine zz_iV (As := [.int (nI a), .int (nI pl)]) (rest := []) (wc := [(q 0, zc_ob q sb wy kd bb hi mi (vi + (nI 1)) wb), (q 2, .inl (cZ, 128, .inl fd))]) (wr := [(q 1, .inl (cI, 128, .inl fb)), (q 3, .inl (cI, 128, .inl fs)), (q 4, .inl (cI, 16, .inl ft))]) ⟨hx, hb, hml, hown, hts⟩ (cc_isDirtyAt l dC dI cI cZ cO cL q sb wy kd bb hi mi (vi + (nI 1)) wb fd a pl (by omega) (hbit _ (by omega))) (zz_cwV hts kj_232 kj_33 kj_229 kj_230 kj_231 kz_C_isDirtyAt rfl rfl ⟨Nat.le_of_ble_eq_true rfl, Nat.le_of_ble_eq_true rfl⟩) (hP.sub [1, 3, 4, 0, 2] rfl) (hD.sub [1, 3, 4, 0, 2] (by decide) rfl) hK hS hA (q0 := 0) rfl rfl rfl rfl hl.1 rfl (Nat.le_of_ble_eq_true rfl) kd_C_bringIn_47 ⟨by decide, by decide⟩ (fun r9 w9 H locs hw hP hD hS => ?_)
      obtain ⟨rfl, rfl⟩ := hw
      have hP : va_P (dC, dI) zk_cl [(q 1, .inl (cI, 128, .inl fb)), (q 3, .inl (cI, 128, .inl fs)), (q 4, .inl (cI, 16, .inl ft)), (q 0, zc_ob q sb wy kd bb hi mi (vi + (nI 1)) wb), (q 2, .inl (cZ, 128, .inl fd))] H := hP
      have hD : va_D A [(q 1, .inl (cI, 128, .inl fb)), (q 3, .inl (cI, 128, .inl fs)), (q 4, .inl (cI, 16, .inl ft)), (q 0, zc_ob q sb wy kd bb hi mi (vi + (nI 1)) wb), (q 2, .inl (cZ, 128, .inl fd))] := hD
      refine lv_if_eq (tgt := 63) hx hb kd_C_bringIn_50 (by decide) (fun c50 => ?_) (fun c50 => ?_)
      · skip
        exact hc63 pl (vi + (nI 1)) wb  (by first | exact ⟨hpl0, Or.inl ⟨fp3, rfl, rfl⟩⟩ | exact ⟨hpl, Or.inr ⟨c9 ▸ fp3, hv, rfl, Or.inl ⟨c50, rfl⟩⟩⟩ | exact ⟨hpl, Or.inr ⟨c9 ▸ fp3, hv, rfl, Or.inr ⟨c50, rfl⟩⟩⟩) _ _ (hP.sub [3, 0, 4, 1, 2] rfl) (hD.sub [3, 0, 4, 1, 2] (by decide) rfl) hS ls (lv_sub hl [1, 2, 3, 0] rfl)
      · skip
        refine lv_aload_n hx hb kd_C_bringIn_53 rfl (lv_at hl 1 rfl) ?_
        refine lv_dup hx hb kd_C_bringIn_54 rfl ?_
        refine va_get (D := (dC, dI)) (ci := 0) (v := .int wb) (C := zk_RC) (T := zk_TC) (N := 12) hx hb hts kl_C hown hK hP 3 rfl rfl 11 (by decide) (hts _ kj_156) (fun _ h9 => h9) rfl kd_C_bringIn_55 ?_
        refine lv_iconst (v := nI 1) hx hb kd_C_bringIn_58 (by decide) ?_
        refine lv_iadd hx hb kd_C_bringIn_59 ?_
        refine va_put (D := (dC, dI)) (ci := 0) (v := .int (wb + (nI 1))) (ty := .int) (C := zk_RC) (T := zk_TC) (N := 12) hx hb hts kl_C zk_tC zk_kC zk_nC hown hK hP hD hS 3 rfl rfl 11 (by decide) (hts _ kj_156) (fun _ h9 => h9) rfl (by decide +kernel) rfl rfl (Nat.le_of_ble_eq_true rfl) kd_C_bringIn_60 (fun H locs hP hD hS => ?_)
        have hP : va_P (dC, dI) zk_cl [(q 1, .inl (cI, 128, .inl fb)), (q 3, .inl (cI, 128, .inl fs)), (q 4, .inl (cI, 16, .inl ft)), (q 0, zc_ob q sb wy kd bb hi mi (vi + (nI 1)) (wb + (nI 1))), (q 2, .inl (cZ, 128, .inl fd))] H := hP
        have hD : va_D A [(q 1, .inl (cI, 128, .inl fb)), (q 3, .inl (cI, 128, .inl fs)), (q 4, .inl (cI, 16, .inl ft)), (q 0, zc_ob q sb wy kd bb hi mi (vi + (nI 1)) (wb + (nI 1))), (q 2, .inl (cZ, 128, .inl fd))] := hD
        exact hc63 pl (vi + (nI 1)) (wb + (nI 1))  (by first | exact ⟨hpl0, Or.inl ⟨fp3, rfl, rfl⟩⟩ | exact ⟨hpl, Or.inr ⟨c9 ▸ fp3, hv, rfl, Or.inl ⟨c50, rfl⟩⟩⟩ | exact ⟨hpl, Or.inr ⟨c9 ▸ fp3, hv, rfl, Or.inr ⟨c50, rfl⟩⟩⟩) _ _ (hP.sub [3, 0, 4, 1, 2] rfl) (hD.sub [3, 0, 4, 1, 2] (by decide) rfl) hS ls (lv_sub hl [1, 2, 3, 0] rfl)
    refine lv_aload_n hx hb kd_C_bringIn_12 rfl (lv_at hl 1 rfl) ?_
    refine va_get (D := (dC, dI)) (ci := 0) (v := .int (nI kd)) (C := zk_RC) (T := zk_TC) (N := 12) hx hb hts kl_C hown hK hP 3 rfl rfl 2 (by decide) (hts _ kj_144) (fun _ h9 => h9) rfl kd_C_bringIn_13 ?_
    refine lv_iconst (v := nI 2) hx hb kd_C_bringIn_16 (by decide) ?_
    refine zz_icmp_ne (tgt := 28) hx hb kd_C_bringIn_17 (by decide) (by omega) (by decide) (fun c17 => ?_) (fun c17 => ?_)
    · skip
      refine lv_aload_n hx hb kd_C_bringIn_28 rfl (lv_at hl 1 rfl) ?_
      refine lv_iload_n hx hb kd_C_bringIn_29 rfl (lv_at hl 2 rfl) ?_
      refine zz_iV (As := [.int (nI a)]) (rest := []) (wc := [(q 0, zc_ob q sb wy kd bb hi mi vi wb), (q 3, .inl (cI, 128, .inl fs))]) (wr := [(q 2, .inl (cZ, 128, .inl fd)), (q 4, .inl (cI, 16, .inl ft)), (q 1, .inl (cI, 128, .inl fb))]) ⟨hx, hb, hml, hown, hts⟩ (cc_oldestPlace l dC dI cI cZ cO cL q sb wy kd bb hi mi vi wb fs a (hwy) (zu_ix ha hwy.2)) (zz_cwV hts kj_228 kj_33 kj_226 kj_227 kj_6 kz_C_oldestPlace rfl rfl ⟨Nat.le_of_ble_eq_true rfl, Nat.le_of_ble_eq_true rfl⟩) (hP.sub [0, 2, 4, 3, 1] rfl) (hD.sub [0, 2, 4, 3, 1] (by decide) rfl) hK hS hA (q0 := 0) rfl rfl rfl rfl hl.1 rfl (Nat.le_of_ble_eq_true rfl) kd_C_bringIn_30 ⟨by decide, by decide⟩ (fun r9 w9 H locs hw hP hD hS => ?_)
      obtain ⟨o_3, rfl, rfl, am30⟩ := hw
      have hP : va_P (dC, dI) zk_cl [(q 2, .inl (cZ, 128, .inl fd)), (q 4, .inl (cI, 16, .inl ft)), (q 1, .inl (cI, 128, .inl fb)), (q 0, zc_ob q sb wy kd bb hi mi vi wb), (q 3, .inl (cI, 128, .inl fs))] H := hP
      have hD : va_D A [(q 2, .inl (cZ, 128, .inl fd)), (q 4, .inl (cI, 16, .inl ft)), (q 1, .inl (cI, 128, .inl fb)), (q 0, zc_ob q sb wy kd bb hi mi vi wb), (q 3, .inl (cI, 128, .inl fs))] := hD
      exact hc33 o_3  (by first | exact zt_pt_lt (hk2 c17) | exact am30.1) (by first | exact Or.inl ⟨c17, rfl⟩ | exact Or.inr ⟨c17, am30⟩) _ _ (hP.sub [3, 2, 0, 4, 1] rfl) (hD.sub [3, 2, 0, 4, 1] (by decide) rfl) hS ls (lv_sub hl [1, 2, 3] rfl)
    · skip
      refine lv_aload_n hx hb kd_C_bringIn_20 rfl (lv_at hl 1 rfl) ?_
      refine lv_iload_n hx hb kd_C_bringIn_21 rfl (lv_at hl 2 rfl) ?_
      refine zz_iV (As := [.int (nI a)]) (rest := []) (wc := [(q 0, zc_ob q sb wy kd bb hi mi vi wb), (q 4, .inl (cI, 16, .inl ft))]) (wr := [(q 2, .inl (cZ, 128, .inl fd)), (q 3, .inl (cI, 128, .inl fs)), (q 1, .inl (cI, 128, .inl fb))]) ⟨hx, hb, hml, hown, hts⟩ (cc_pointedPlace l dC dI cI cZ cO cL q sb wy kd bb hi mi vi wb ft a t (hk2 c17) (ha) (hft) (ht)) (zz_cwV hts kj_225 kj_33 kj_223 kj_224 kj_5 kz_C_pointedPlace rfl rfl ⟨Nat.le_of_ble_eq_true rfl, Nat.le_of_ble_eq_true rfl⟩) (hP.sub [0, 1, 4, 3, 2] rfl) (hD.sub [0, 1, 4, 3, 2] (by decide) rfl) hK hS hA (q0 := 0) rfl rfl rfl rfl hl.1 rfl (Nat.le_of_ble_eq_true rfl) kd_C_bringIn_22 ⟨by decide, by decide⟩ (fun r9 w9 H locs hw hP hD hS => ?_)
      obtain ⟨rfl, rfl⟩ := hw
      have hP : va_P (dC, dI) zk_cl [(q 2, .inl (cZ, 128, .inl fd)), (q 3, .inl (cI, 128, .inl fs)), (q 1, .inl (cI, 128, .inl fb)), (q 0, zc_ob q sb wy kd bb hi mi vi wb), (q 4, .inl (cI, 16, .inl ft))] H := hP
      have hD : va_D A [(q 2, .inl (cZ, 128, .inl fd)), (q 3, .inl (cI, 128, .inl fs)), (q 1, .inl (cI, 128, .inl fb)), (q 0, zc_ob q sb wy kd bb hi mi vi wb), (q 4, .inl (cI, 16, .inl ft))] := hD
      refine lv_goto (tgt := 33) hx hb kd_C_bringIn_25 (by decide) ?_
      exact hc33 (zt_pt (zt_b t) 4 (wy / 2) 1 0)  (by first | exact zt_pt_lt (hk2 c17) | exact am30.1) (by first | exact Or.inl ⟨c17, rfl⟩ | exact Or.inr ⟨c17, am30⟩) _ _ (hP.sub [3, 2, 0, 1, 4] rfl) (hD.sub [3, 2, 0, 1, 4] (by decide) rfl) hS ls (lv_sub hl [1, 2, 3] rfl)

def rm_cc_sees : Room := { frames := 4, cells := 0, slots := 0, locals := 91 }
set_option maxHeartbeats 4000000 in
set_option maxRecDepth 100000 in
/-- a cache sees an access -/
theorem cc_sees (l : Launch) (dC : Nat → ClassId) (dI : Nat → Nat → Nat) (cI cZ cO cL : ClassId) (q : Nat → Nat) (sb : Nat) (wy : Nat) (kd : Nat) (bb : Nat) (hi : Int32) (mi : Int32) (vi : Int32) (wb : Int32) (fb : Nat → Int32) (fd : Nat → Int32) (fs : Nat → Int32) (ft : Nat → Int32) (tr : Nat → Nat) (ad : Nat) (b : Nat) (a : Nat) (wr : Int32) (num : Int32) (had : ad < 4096) (hsb : sb ≤ 4) (hbb : bb ≤ 6) (hwy : 1 ≤ wy ∧ wy ≤ 8) (hk2 : kd = 2 → wy = 1 ∨ wy = 2 ∨ wy = 4 ∨ wy = 8) (hkd : kd ≤ 2) (hbit : ∀ j, j < 128 → fd j = 0 ∨ fd j = 1) (htr : ∀ j, j < 16 → ft j = nI (tr j) ∧ tr j < 256) (hb1 : ad / 2 ^ bb = b) (ha1 : b % 2 ^ sb = a) (hb2 : b < 4096) : zz_Mi l ky_C_sees kw_C_sees rm_cc_sees (dC, dI) (zz_ty cI cZ cO cL) [(q 0, zc_ob q sb wy kd bb hi mi vi wb), (q 1, .inl (cI, 128, .inl fb)), (q 2, .inl (cZ, 128, .inl fd)), (q 3, .inl (cI, 128, .inl fs)), (q 4, .inl (cI, 16, .inl ft))] [.ref (q 0), .int (nI ad), .int wr, .int num] (fun (r : Int32) (w : va_W) => ∃ (h : Nat), ∃ (pl : Nat), ∃ (fb2 : Nat → Int32), ∃ (fd2 : Nat → Int32), ∃ (fs2 : Nat → Int32), ∃ (ft2 : Nat → Int32), ∃ (hi2 : Int32), ∃ (mi2 : Int32), ∃ (vi2 : Int32), ∃ (wb2 : Int32), w = [(q 0, zc_ob q sb wy kd bb hi2 mi2 vi2 wb2), (q 1, .inl (cI, 128, .inl fb2)), (q 2, .inl (cZ, 128, .inl fd2)), (q 3, .inl (cI, 128, .inl fs2)), (q 4, .inl (cI, 16, .inl ft2))] ∧ (r = nI h) ∧ (pl < wy) ∧ ((h = 1 ∧ zf_FP (fun k => fb (a * wy + k)) wy (nI b) (nI pl) ∧ hi2 = hi + 1 ∧ mi2 = mi ∧ vi2 = vi ∧ wb2 = wb ∧ fb2 = fb) ∨ (h = 0 ∧ zf_FP (fun k => fb (a * wy + k)) wy (nI b) (-1) ∧ zc_bi wy kd (fun k => fb (a * wy + k)) (fun k => fs (a * wy + k)) (fun k => fd (a * wy + k)) (zt_b (tr a)) pl vi wb vi2 wb2 ∧ hi2 = hi ∧ mi2 = mi + 1 ∧ fb2 = upd fb (a * wy + pl) (nI b))) ∧ ((∀ j, j ≠ a * wy + pl → fd2 j = fd j) ∧ fd2 (a * wy + pl) = if wr = 0 then (if h = 1 then fd (a * wy + pl) else 0) else 1) ∧ ((∀ j, j ≠ a * wy + pl → fs2 j = fs j) ∧ fs2 (a * wy + pl) = if h = 1 ∧ kd = 1 then fs (a * wy + pl) else num) ∧ ((kd ≠ 2 → ft2 = ft) ∧ (kd = 2 → ∃ t2, t2 < 256 ∧ ft2 = upd ft a (nI t2) ∧ zt_b t2 = zt_pa pl 4 (wy / 2) 1 (zt_b (tr a))))) 0 0 := by
  refine zz_entry_z (cc := kb_C_sees) (maxL := 9) (own := zk_RC) (by decide) rfl rfl (Nat.le_of_ble_eq_true rfl) ?_
  intro p e s m args below meth c Q hx hb hml hown hts hin hP hK A hD hA hS hret ls hl
  have hl : lv_has ls 9 [(0, .ref (q 0)), (1, .int (nI ad)), (2, .int wr), (3, .int num)] := hl
  obtain ⟨H, eH⟩ : ∃ z, z = s.heap := ⟨_, rfl⟩
  obtain ⟨locs, eL⟩ : ∃ z : List Loc, z = [] := ⟨_, rfl⟩
  rw [← eH] at hP ⊢
  have hS : va_S A s.heap H locs := by rw [eH, eL]; exact hS
  rw [← eL]
  have ha : a < 16 := by rw [← ha1]; exact zu_set hsb
  have hi0 := zu_ix ha hwy.2
  refine lv_iload_n hx hb kd_C_sees_0 rfl (lv_at hl 1 rfl) ?_
  refine lv_aload_n hx hb kd_C_sees_1 rfl (lv_at hl 0 rfl) ?_
  refine va_get (D := (dC, dI)) (ci := 0) (v := .int (nI bb)) (C := zk_RC) (T := zk_TC) (N := 12) hx hb hts kl_C hown hK hP 0 rfl rfl 3 (by decide) (hts _ kj_145) (fun _ h9 => h9) rfl kd_C_sees_2 ?_
  refine lv_ishr hx hb kd_C_sees_5 ?_
  refine zz_top (y := nI b) ((zn_shr (by omega) (by omega)).trans (by rw [hb1])) ?_
  refine lv_istore (lv' := [(4, .int (nI b)), (0, .ref (q 0)), (1, .int (nI ad)), (2, .int wr), (3, .int num)]) hx hb kd_C_sees_6 hl (by decide) rfl (fun ls hl => ?_)
  refine lv_iload hx hb kd_C_sees_8 (lv_at hl 0 rfl) ?_
  refine lv_aload_n hx hb kd_C_sees_10 rfl (lv_at hl 1 rfl) ?_
  refine zz_iV (As := []) (rest := [.int (nI b)]) (wc := [(q 0, zc_ob q sb wy kd bb hi mi vi wb)]) (wr := [(q 1, .inl (cI, 128, .inl fb)), (q 2, .inl (cZ, 128, .inl fd)), (q 3, .inl (cI, 128, .inl fs)), (q 4, .inl (cI, 16, .inl ft))]) ⟨hx, hb, hml, hown, hts⟩ (cc_countSets l dC dI cI cZ cO cL q sb wy kd bb hi mi vi wb (by omega)) (zz_cwV hts kj_209 kj_33 kj_207 kj_208 kj_1 kz_C_countSets rfl rfl ⟨Nat.le_of_ble_eq_true rfl, Nat.le_of_ble_eq_true rfl⟩) (hP.sub [1, 2, 3, 4, 0] rfl) (hD.sub [1, 2, 3, 4, 0] (by decide) rfl) hK hS hA (q0 := 0) rfl rfl rfl rfl hl.1 rfl (Nat.le_of_ble_eq_true rfl) kd_C_sees_11 ⟨by decide, by decide⟩ (fun r9 w9 H locs hw hP hD hS => ?_)
  obtain ⟨rfl, rfl⟩ := hw
  have hP : va_P (dC, dI) zk_cl [(q 1, .inl (cI, 128, .inl fb)), (q 2, .inl (cZ, 128, .inl fd)), (q 3, .inl (cI, 128, .inl fs)), (q 4, .inl (cI, 16, .inl ft)), (q 0, zc_ob q sb wy kd bb hi mi vi wb)] H := hP
  have hD : va_D A [(q 1, .inl (cI, 128, .inl fb)), (q 2, .inl (cZ, 128, .inl fd)), (q 3, .inl (cI, 128, .inl fs)), (q 4, .inl (cI, 16, .inl ft)), (q 0, zc_ob q sb wy kd bb hi mi vi wb)] := hD
  refine lv_iconst (v := nI 1) hx hb kd_C_sees_14 (by decide) ?_
  refine lv_isub hx hb kd_C_sees_15 ?_
  refine zz_top (y := nI (2 ^ sb - 1)) (pk_sub Nat.one_le_two_pow) ?_
  refine lv_iand hx hb kd_C_sees_16 ?_
  refine zz_top (y := nI a) ((zn_mask (by omega) (by omega)).trans (by rw [ha1])) ?_
  refine lv_istore (lv' := [(5, .int (nI a)), (4, .int (nI b)), (0, .ref (q 0)), (1, .int (nI ad)), (2, .int wr), (3, .int num)]) hx hb kd_C_sees_17 hl (by decide) rfl (fun ls hl => ?_)
  refine lv_aload_n hx hb kd_C_sees_19 rfl (lv_at hl 2 rfl) ?_
  refine lv_iload hx hb kd_C_sees_20 (lv_at hl 0 rfl) ?_
  refine lv_iload hx hb kd_C_sees_22 (lv_at hl 1 rfl) ?_
  refine zz_iV (As := [.int (nI a), .int (nI b)]) (rest := []) (wc := [(q 0, zc_ob q sb wy kd bb hi mi vi wb), (q 1, .inl (cI, 128, .inl fb))]) (wr := [(q 2, .inl (cZ, 128, .inl fd)), (q 3, .inl (cI, 128, .inl fs)), (q 4, .inl (cI, 16, .inl ft))]) ⟨hx, hb, hml, hown, hts⟩ (cc_findPlace l dC dI cI cZ cO cL q sb wy kd bb hi mi vi wb fb a (nI b) (hwy.2) (hi0)) (zz_cwV hts kj_212 kj_33 kj_210 kj_211 kj_2 kz_C_findPlace rfl rfl ⟨Nat.le_of_ble_eq_true rfl, Nat.le_of_ble_eq_true rfl⟩) (hP.sub [1, 2, 3, 4, 0] rfl) (hD.sub [1, 2, 3, 4, 0] (by decide) rfl) hK hS hA (q0 := 0) rfl rfl rfl rfl hl.1 rfl (Nat.le_of_ble_eq_true rfl) kd_C_sees_24 ⟨by decide, by decide⟩ (fun r9 w9 H locs hw hP hD hS => ?_)
  generalize r9 = r0 at hw ⊢
  obtain ⟨rfl, fp24⟩ := hw
  have hP : va_P (dC, dI) zk_cl [(q 2, .inl (cZ, 128, .inl fd)), (q 3, .inl (cI, 128, .inl fs)), (q 4, .inl (cI, 16, .inl ft)), (q 0, zc_ob q sb wy kd bb hi mi vi wb), (q 1, .inl (cI, 128, .inl fb))] H := hP
  have hD : va_D A [(q 2, .inl (cZ, 128, .inl fd)), (q 3, .inl (cI, 128, .inl fs)), (q 4, .inl (cI, 16, .inl ft)), (q 0, zc_ob q sb wy kd bb hi mi vi wb), (q 1, .inl (cI, 128, .inl fb))] := hD
  refine lv_istore (lv' := [(6, .int r0), (5, .int (nI a)), (4, .int (nI b)), (0, .ref (q 0)), (1, .int (nI ad)), (2, .int wr), (3, .int num)]) hx hb kd_C_sees_27 hl (by decide) rfl (fun ls hl => ?_)
  have hc80 : ∀ (h : Nat) (pl : Nat) (fb1 : Nat → Int32) (fd1 : Nat → Int32) (hi1 : Int32) (mi1 : Int32) (vi1 : Int32) (wb1 : Int32), (pl < wy) → ((h = 1 ∧ zf_FP (fun k => fb (a * wy + k)) wy (nI b) (nI pl) ∧ hi1 = hi + 1 ∧ mi1 = mi ∧ vi1 = vi ∧ wb1 = wb ∧ fb1 = fb) ∨ (h = 0 ∧ zf_FP (fun k => fb (a * wy + k)) wy (nI b) (-1) ∧ zc_bi wy kd (fun k => fb (a * wy + k)) (fun k => fs (a * wy + k)) (fun k => fd (a * wy + k)) (zt_b (tr a)) pl vi wb vi1 wb1 ∧ hi1 = hi ∧ mi1 = mi + 1 ∧ fb1 = upd fb (a * wy + pl) (nI b))) → ((∀ j, j ≠ a * wy + pl → fd1 j = fd j) ∧ fd1 (a * wy + pl) = if h = 1 then fd (a * wy + pl) else 0) → ∀ (H : Heap) (locs : List Loc), va_P (dC, dI) zk_cl [(q 0, zc_ob q sb wy kd bb hi1 mi1 vi1 wb1), (q 1, .inl (cI, 128, .inl fb1)), (q 2, .inl (cZ, 128, .inl fd1)), (q 3, .inl (cI, 128, .inl fs)), (q 4, .inl (cI, 16, .inl ft))] H → va_D A [(q 0, zc_ob q sb wy kd bb hi1 mi1 vi1 wb1), (q 1, .inl (cI, 128, .inl fb1)), (q 2, .inl (cZ, 128, .inl fd1)), (q 3, .inl (cI, 128, .inl fs)), (q 4, .inl (cI, 16, .inl ft))] → va_S A s.heap H locs → ∀ ls : Array Slot, lv_has ls 9 [(0, .ref (q 0)), (2, .int wr), (3, .int num), (5, .int (nI a)), (6, .int (nI pl)), (7, .int (nI h))] → W p l e rm_cc_sees s m args below meth c H locs 0 0 Q (F0 m 80 ls []) := by
    intro h pl fb1 fd1 hi1 mi1 vi1 wb1 hpl hc hd1 H locs hP hD hS ls hl
    have hh : h ≤ 1 := by rcases hc with ⟨z, _⟩ | ⟨z, _⟩ <;> omega
    have ha : a < 16 := by rw [← ha1]; exact zu_set hsb
    have hi0 := zu_ix ha hwy.2
    refine lv_aload_n hx hb kd_C_sees_80 rfl (lv_at hl 0 rfl) ?_
    refine lv_iload hx hb kd_C_sees_81 (lv_at hl 3 rfl) ?_
    refine lv_iload hx hb kd_C_sees_83 (lv_at hl 4 rfl) ?_
    refine zz_iV (As := [.int (nI a), .int (nI pl)]) (rest := []) (wc := [(q 0, zc_ob q sb wy kd bb hi1 mi1 vi1 wb1)]) (wr := [(q 1, .inl (cI, 128, .inl fb1)), (q 2, .inl (cZ, 128, .inl fd1)), (q 3, .inl (cI, 128, .inl fs)), (q 4, .inl (cI, 16, .inl ft))]) ⟨hx, hb, hml, hown, hts⟩ (cc_slotOf l dC dI cI cZ cO cL q sb wy kd bb hi1 mi1 vi1 wb1 a pl ) (zz_cwV hts kj_219 kj_33 kj_217 kj_218 kj_3 kz_C_slotOf rfl rfl ⟨Nat.le_of_ble_eq_true rfl, Nat.le_of_ble_eq_true rfl⟩) (hP.sub [1, 2, 3, 4, 0] rfl) (hD.sub [1, 2, 3, 4, 0] (by decide) rfl) hK hS hA (q0 := 0) rfl rfl rfl rfl hl.1 rfl (Nat.le_of_ble_eq_true rfl) kd_C_sees_85 ⟨by decide, by decide⟩ (fun r9 w9 H locs hw hP hD hS => ?_)
    obtain ⟨rfl, rfl⟩ := hw
    have hP : va_P (dC, dI) zk_cl [(q 1, .inl (cI, 128, .inl fb1)), (q 2, .inl (cZ, 128, .inl fd1)), (q 3, .inl (cI, 128, .inl fs)), (q 4, .inl (cI, 16, .inl ft)), (q 0, zc_ob q sb wy kd bb hi1 mi1 vi1 wb1)] H := hP
    have hD : va_D A [(q 1, .inl (cI, 128, .inl fb1)), (q 2, .inl (cZ, 128, .inl fd1)), (q 3, .inl (cI, 128, .inl fs)), (q 4, .inl (cI, 16, .inl ft)), (q 0, zc_ob q sb wy kd bb hi1 mi1 vi1 wb1)] := hD
    refine lv_istore (lv' := [(8, .int (nI (a * wy + pl))), (0, .ref (q 0)), (2, .int wr), (3, .int num), (5, .int (nI a)), (6, .int (nI pl)), (7, .int (nI h))]) hx hb kd_C_sees_88 hl (by decide) rfl (fun ls hl => ?_)
    have hc123 : ∀ (fd2 : Nat → Int32) (fs2 : Nat → Int32), ((∀ j, j ≠ a * wy + pl → fd2 j = fd j) ∧ fd2 (a * wy + pl) = if wr = 0 then (if h = 1 then fd (a * wy + pl) else 0) else 1) → ((∀ j, j ≠ a * wy + pl → fs2 j = fs j) ∧ fs2 (a * wy + pl) = if h = 1 ∧ kd = 1 then fs (a * wy + pl) else num) → ∀ (H : Heap) (locs : List Loc), va_P (dC, dI) zk_cl [(q 0, zc_ob q sb wy kd bb hi1 mi1 vi1 wb1), (q 1, .inl (cI, 128, .inl fb1)), (q 2, .inl (cZ, 128, .inl fd2)), (q 3, .inl (cI, 128, .inl fs2)), (q 4, .inl (cI, 16, .inl ft))] H → va_D A [(q 0, zc_ob q sb wy kd bb hi1 mi1 vi1 wb1), (q 1, .inl (cI, 128, .inl fb1)), (q 2, .inl (cZ, 128, .inl fd2)), (q 3, .inl (cI, 128, .inl fs2)), (q 4, .inl (cI, 16, .inl ft))] → va_S A s.heap H locs → ∀ ls : Array Slot, lv_has ls 9 [(0, .ref (q 0)), (2, .int wr), (3, .int num), (5, .int (nI a)), (6, .int (nI pl)), (7, .int (nI h)), (8, .int (nI (a * wy + pl)))] → W p l e rm_cc_sees s m args below meth c H locs 0 0 Q (F0 m 123 ls []) := by
      intro fd2 fs2 hd2 hs2 H locs hP hD hS ls hl
      refine lv_aload_n hx hb kd_C_sees_123 rfl (lv_at hl 0 rfl) ?_
      refine va_get (D := (dC, dI)) (ci := 0) (v := .int (nI kd)) (C := zk_RC) (T := zk_TC) (N := 12) hx hb hts kl_C hown hK hP 0 rfl rfl 2 (by decide) (hts _ kj_144) (fun _ h9 => h9) rfl kd_C_sees_124 ?_
      refine lv_iconst (v := nI 2) hx hb kd_C_sees_127 (by decide) ?_
      refine zz_icmp_ne (tgt := 139) hx hb kd_C_sees_128 (by decide) (by omega) (by decide) (fun c128 => ?_) (fun c128 => ?_)
      · skip
        refine lv_iload hx hb kd_C_sees_139 (lv_at hl 5 rfl) ?_
        exact hret _ _ _ _ _ _ (zu_bit hh) kd_C_sees_141 hP hD hS (⟨h, pl, fb1, fd2, fs2, ft, hi1, mi1, vi1, wb1, rfl, rfl, (hpl), (hc), (hd2), (hs2), (by first | exact ⟨fun _ => rfl, fun z => absurd z c128⟩ | exact ⟨fun z => absurd c128 z, fun _ => ⟨_, g1, rfl, g2⟩⟩)⟩)
      · skip
        refine lv_aload_n hx hb kd_C_sees_131 rfl (lv_at hl 0 rfl) ?_
        refine lv_iload hx hb kd_C_sees_132 (lv_at hl 3 rfl) ?_
        refine lv_iload hx hb kd_C_sees_134 (lv_at hl 4 rfl) ?_
        refine zz_vV (As := [.int (nI a), .int (nI pl)]) (rest := []) (wc := [(q 0, zc_ob q sb wy kd bb hi1 mi1 vi1 wb1), (q 4, .inl (cI, 16, .inl ft))]) (wr := [(q 1, .inl (cI, 128, .inl fb1)), (q 2, .inl (cZ, 128, .inl fd2)), (q 3, .inl (cI, 128, .inl fs2))]) ⟨hx, hb, hml, hown, hts⟩ (cc_pointAway l dC dI cI cZ cO cL q sb wy kd bb hi1 mi1 vi1 wb1 ft a pl (tr a) (hk2 c128) (ha) (by omega) ((htr a ha).1) ((htr a ha).2)) (zz_cwV hts kj_235 kj_33 kj_233 kj_234 kj_7 kz_C_pointAway rfl rfl ⟨Nat.le_of_ble_eq_true rfl, Nat.le_of_ble_eq_true rfl⟩) (hP.sub [1, 2, 3, 0, 4] rfl) (hD.sub [1, 2, 3, 0, 4] (by decide) rfl) hK hS hA (q0 := 0) rfl rfl rfl rfl hl.1 rfl (Nat.le_of_ble_eq_true rfl) kd_C_sees_136 ⟨by decide, by decide⟩ (fun w9 H locs hw hP hD hS => ?_)
        obtain ⟨t2_3, rfl, g1, g2⟩ := hw
        have hP : va_P (dC, dI) zk_cl [(q 1, .inl (cI, 128, .inl fb1)), (q 2, .inl (cZ, 128, .inl fd2)), (q 3, .inl (cI, 128, .inl fs2)), (q 0, zc_ob q sb wy kd bb hi1 mi1 vi1 wb1), (q 4, .inl (cI, 16, .inl (upd ft a (nI t2_3))))] H := hP
        have hD : va_D A [(q 1, .inl (cI, 128, .inl fb1)), (q 2, .inl (cZ, 128, .inl fd2)), (q 3, .inl (cI, 128, .inl fs2)), (q 0, zc_ob q sb wy kd bb hi1 mi1 vi1 wb1), (q 4, .inl (cI, 16, .inl (upd ft a (nI t2_3))))] := hD
        refine lv_iload hx hb kd_C_sees_139 (lv_at hl 5 rfl) ?_
        exact hret _ _ _ _ _ _ (zu_bit hh) kd_C_sees_141 (hP.sub [3, 0, 1, 2, 4] rfl) (hD.sub [3, 0, 1, 2, 4] (by decide) rfl) hS (⟨h, pl, fb1, fd2, fs2, upd ft a (nI t2_3), hi1, mi1, vi1, wb1, rfl, rfl, (hpl), (hc), (hd2), (hs2), (by first | exact ⟨fun _ => rfl, fun z => absurd z c128⟩ | exact ⟨fun z => absurd c128 z, fun _ => ⟨_, g1, rfl, g2⟩⟩)⟩)
    have hc102 : ∀ (fd2 : Nat → Int32), ((∀ j, j ≠ a * wy + pl → fd2 j = fd j) ∧ fd2 (a * wy + pl) = if wr = 0 then (if h = 1 then fd (a * wy + pl) else 0) else 1) → ∀ (H : Heap) (locs : List Loc), va_P (dC, dI) zk_cl [(q 0, zc_ob q sb wy kd bb hi1 mi1 vi1 wb1), (q 1, .inl (cI, 128, .inl fb1)), (q 2, .inl (cZ, 128, .inl fd2)), (q 3, .inl (cI, 128, .inl fs)), (q 4, .inl (cI, 16, .inl ft))] H → va_D A [(q 0, zc_ob q sb wy kd bb hi1 mi1 vi1 wb1), (q 1, .inl (cI, 128, .inl fb1)), (q 2, .inl (cZ, 128, .inl fd2)), (q 3, .inl (cI, 128, .inl fs)), (q 4, .inl (cI, 16, .inl ft))] → va_S A s.heap H locs → ∀ ls : Array Slot, lv_has ls 9 [(0, .ref (q 0)), (2, .int wr), (3, .int num), (5, .int (nI a)), (6, .int (nI pl)), (7, .int (nI h)), (8, .int (nI (a * wy + pl)))] → W p l e rm_cc_sees s m args below meth c H locs 0 0 Q (F0 m 102 ls []) := by
      intro fd2 hd2 H locs hP hD hS ls hl
      refine lv_iload hx hb kd_C_sees_102 (lv_at hl 5 rfl) ?_
      refine zz_if_eq (tgt := 115) hx hb kd_C_sees_104 (by decide) (by omega) (fun c104 => ?_) (fun c104 => ?_)
      · skip
        refine lv_aload_n hx hb kd_C_sees_115 rfl (lv_at hl 0 rfl) ?_
        refine va_get (D := (dC, dI)) (ci := 0) (v := .ref (q 3)) (C := zk_RC) (T := zk_TC) (N := 12) hx hb hts kl_C hown hK hP 0 rfl rfl 6 (by decide) (hts _ kj_148) (fun _ h9 => h9) rfl kd_C_sees_116 ?_
        refine lv_iload hx hb kd_C_sees_119 (lv_at hl 6 rfl) ?_
        refine lv_iload_n hx hb kd_C_sees_121 rfl (lv_at hl 2 rfl) ?_
        refine zz_iast hx hb hK hP hD hS 3 0 rfl rfl (k := a * wy + pl) (by omega) (by decide) kd_C_sees_122 (fun H locs hP hD hS => ?_)
        have hP : va_P (dC, dI) zk_cl [(q 0, zc_ob q sb wy kd bb hi1 mi1 vi1 wb1), (q 1, .inl (cI, 128, .inl fb1)), (q 2, .inl (cZ, 128, .inl fd2)), (q 3, .inl (cI, 128, .inl (upd fs (a * wy + pl) num))), (q 4, .inl (cI, 16, .inl ft))] H := hP
        have hD : va_D A [(q 0, zc_ob q sb wy kd bb hi1 mi1 vi1 wb1), (q 1, .inl (cI, 128, .inl fb1)), (q 2, .inl (cZ, 128, .inl fd2)), (q 3, .inl (cI, 128, .inl (upd fs (a * wy + pl) num))), (q 4, .inl (cI, 16, .inl ft))] := hD
        exact hc123 fd2 (upd fs (a * wy + pl) num)  (hd2) (by first | exact ⟨fun _ _ => rfl, by rw [if_pos ⟨by omega, c112⟩]⟩ | exact ⟨fun j hj => pk_un hj, by rw [pk_us, if_neg (by omega)]⟩) _ _ hP hD hS ls (lv_sub hl [0, 1, 2, 3, 4, 5, 6] rfl)
      · skip
        refine lv_aload_n hx hb kd_C_sees_107 rfl (lv_at hl 0 rfl) ?_
        refine va_get (D := (dC, dI)) (ci := 0) (v := .int (nI kd)) (C := zk_RC) (T := zk_TC) (N := 12) hx hb hts kl_C hown hK hP 0 rfl rfl 2 (by decide) (hts _ kj_144) (fun _ h9 => h9) rfl kd_C_sees_108 ?_
        refine lv_iconst (v := nI 1) hx hb kd_C_sees_111 (by decide) ?_
        refine zz_icmp_eq (tgt := 123) hx hb kd_C_sees_112 (by decide) (by omega) (by decide) (fun c112 => ?_) (fun c112 => ?_)
        · skip
          exact hc123 fd2 fs  (hd2) (by first | exact ⟨fun _ _ => rfl, by rw [if_pos ⟨by omega, c112⟩]⟩ | exact ⟨fun j hj => pk_un hj, by rw [pk_us, if_neg (by omega)]⟩) _ _ hP hD hS ls (lv_sub hl [0, 1, 2, 3, 4, 5, 6] rfl)
        · skip
          refine lv_aload_n hx hb kd_C_sees_115 rfl (lv_at hl 0 rfl) ?_
          refine va_get (D := (dC, dI)) (ci := 0) (v := .ref (q 3)) (C := zk_RC) (T := zk_TC) (N := 12) hx hb hts kl_C hown hK hP 0 rfl rfl 6 (by decide) (hts _ kj_148) (fun _ h9 => h9) rfl kd_C_sees_116 ?_
          refine lv_iload hx hb kd_C_sees_119 (lv_at hl 6 rfl) ?_
          refine lv_iload_n hx hb kd_C_sees_121 rfl (lv_at hl 2 rfl) ?_
          refine zz_iast hx hb hK hP hD hS 3 0 rfl rfl (k := a * wy + pl) (by omega) (by decide) kd_C_sees_122 (fun H locs hP hD hS => ?_)
          have hP : va_P (dC, dI) zk_cl [(q 0, zc_ob q sb wy kd bb hi1 mi1 vi1 wb1), (q 1, .inl (cI, 128, .inl fb1)), (q 2, .inl (cZ, 128, .inl fd2)), (q 3, .inl (cI, 128, .inl (upd fs (a * wy + pl) num))), (q 4, .inl (cI, 16, .inl ft))] H := hP
          have hD : va_D A [(q 0, zc_ob q sb wy kd bb hi1 mi1 vi1 wb1), (q 1, .inl (cI, 128, .inl fb1)), (q 2, .inl (cZ, 128, .inl fd2)), (q 3, .inl (cI, 128, .inl (upd fs (a * wy + pl) num))), (q 4, .inl (cI, 16, .inl ft))] := hD
          exact hc123 fd2 (upd fs (a * wy + pl) num)  (hd2) (by first | exact ⟨fun _ _ => rfl, by rw [if_pos ⟨by omega, c112⟩]⟩ | exact ⟨fun j hj => pk_un hj, by rw [pk_us, if_neg (by omega)]⟩) _ _ hP hD hS ls (lv_sub hl [0, 1, 2, 3, 4, 5, 6] rfl)
    refine lv_iload_n hx hb kd_C_sees_90 rfl (lv_at hl 2 rfl) ?_
    refine lv_if_eq (tgt := 102) hx hb kd_C_sees_91 (by decide) (fun c91 => ?_) (fun c91 => ?_)
    · skip
      exact hc102 fd1  (by first | exact ⟨hd1.1, by rw [if_pos c91]; exact hd1.2⟩ | exact ⟨fun j hj => by rw [pk_un hj]; exact hd1.1 j hj, by rw [pk_us, if_neg c91]; rfl⟩) _ _ (hP.sub [4, 0, 1, 2, 3] rfl) (hD.sub [4, 0, 1, 2, 3] (by decide) rfl) hS ls (lv_sub hl [1, 2, 3, 4, 5, 6, 0] rfl)
    · skip
      refine lv_aload_n hx hb kd_C_sees_94 rfl (lv_at hl 1 rfl) ?_
      refine va_get (D := (dC, dI)) (ci := 0) (v := .ref (q 2)) (C := zk_RC) (T := zk_TC) (N := 12) hx hb hts kl_C hown hK hP 4 rfl rfl 5 (by decide) (hts _ kj_147) (fun _ h9 => h9) rfl kd_C_sees_95 ?_
      refine lv_iload hx hb kd_C_sees_98 (lv_at hl 0 rfl) ?_
      refine lv_iconst (v := nI 1) hx hb kd_C_sees_100 (by decide) ?_
      refine zz_zast hx hb hK hP hD hS 1 1 rfl rfl (k := a * wy + pl) (by omega) (by decide) (Or.inr rfl) kd_C_sees_101 (fun H locs hP hD hS => ?_)
      have hP : va_P (dC, dI) zk_cl [(q 1, .inl (cI, 128, .inl fb1)), (q 2, .inl (cZ, 128, .inl (upd fd1 (a * wy + pl) (nI 1)))), (q 3, .inl (cI, 128, .inl fs)), (q 4, .inl (cI, 16, .inl ft)), (q 0, zc_ob q sb wy kd bb hi1 mi1 vi1 wb1)] H := hP
      have hD : va_D A [(q 1, .inl (cI, 128, .inl fb1)), (q 2, .inl (cZ, 128, .inl (upd fd1 (a * wy + pl) (nI 1)))), (q 3, .inl (cI, 128, .inl fs)), (q 4, .inl (cI, 16, .inl ft)), (q 0, zc_ob q sb wy kd bb hi1 mi1 vi1 wb1)] := hD
      exact hc102 (upd fd1 (a * wy + pl) (nI 1))  (by first | exact ⟨hd1.1, by rw [if_pos c91]; exact hd1.2⟩ | exact ⟨fun j hj => by rw [pk_un hj]; exact hd1.1 j hj, by rw [pk_us, if_neg c91]; rfl⟩) _ _ (hP.sub [4, 0, 1, 2, 3] rfl) (hD.sub [4, 0, 1, 2, 3] (by decide) rfl) hS ls (lv_sub hl [1, 2, 3, 4, 5, 6, 0] rfl)
  refine lv_iload hx hb kd_C_sees_29 (lv_at hl 0 rfl) ?_
  refine lv_iconst (v := (-1)) hx hb kd_C_sees_31 (by decide) ?_
  refine lv_icmp_eq (tgt := 39) hx hb kd_C_sees_32 (by decide) (fun c32 => ?_) (fun c32 => ?_)
  · skip
    refine lv_iconst (v := nI 0) hx hb kd_C_sees_39 (by decide) ?_
    refine lv_istore (lv' := [(7, .int (nI 0)), (6, .int r0), (5, .int (nI a)), (4, .int (nI b)), (0, .ref (q 0)), (1, .int (nI ad)), (2, .int wr), (3, .int num)]) hx hb kd_C_sees_40 hl (by decide) rfl (fun ls hl => ?_)
    refine lv_iload hx hb kd_C_sees_42 (lv_at hl 0 rfl) ?_
    refine zz_if_eq (tgt := 60) hx hb kd_C_sees_44 (by decide) (by decide) (fun _ => ?_) (fun c9 => absurd c9 (by decide))
    refine lv_aload_n hx hb kd_C_sees_60 rfl (lv_at hl 4 rfl) ?_
    refine lv_dup hx hb kd_C_sees_61 rfl ?_
    refine va_get (D := (dC, dI)) (ci := 0) (v := .int mi) (C := zk_RC) (T := zk_TC) (N := 12) hx hb hts kl_C hown hK hP 3 rfl rfl 9 (by decide) (hts _ kj_152) (fun _ h9 => h9) rfl kd_C_sees_62 ?_
    refine lv_iconst (v := nI 1) hx hb kd_C_sees_65 (by decide) ?_
    refine lv_iadd hx hb kd_C_sees_66 ?_
    refine va_put (D := (dC, dI)) (ci := 0) (v := .int (mi + (nI 1))) (ty := .int) (C := zk_RC) (T := zk_TC) (N := 12) hx hb hts kl_C zk_tC zk_kC zk_nC hown hK hP hD hS 3 rfl rfl 9 (by decide) (hts _ kj_152) (fun _ h9 => h9) rfl (by decide +kernel) rfl rfl (Nat.le_of_ble_eq_true rfl) kd_C_sees_67 (fun H locs hP hD hS => ?_)
    have hP : va_P (dC, dI) zk_cl [(q 2, .inl (cZ, 128, .inl fd)), (q 3, .inl (cI, 128, .inl fs)), (q 4, .inl (cI, 16, .inl ft)), (q 0, zc_ob q sb wy kd bb hi (mi + (nI 1)) vi wb), (q 1, .inl (cI, 128, .inl fb))] H := hP
    have hD : va_D A [(q 2, .inl (cZ, 128, .inl fd)), (q 3, .inl (cI, 128, .inl fs)), (q 4, .inl (cI, 16, .inl ft)), (q 0, zc_ob q sb wy kd bb hi (mi + (nI 1)) vi wb), (q 1, .inl (cI, 128, .inl fb))] := hD
    refine lv_aload_n hx hb kd_C_sees_70 rfl (lv_at hl 4 rfl) ?_
    refine lv_iload hx hb kd_C_sees_71 (lv_at hl 2 rfl) ?_
    refine lv_iload hx hb kd_C_sees_73 (lv_at hl 3 rfl) ?_
    refine zz_iV (As := [.int (nI a), .int (nI b)]) (rest := []) (wc := [(q 0, zc_ob q sb wy kd bb hi (mi + (nI 1)) vi wb), (q 1, .inl (cI, 128, .inl fb)), (q 2, .inl (cZ, 128, .inl fd)), (q 3, .inl (cI, 128, .inl fs)), (q 4, .inl (cI, 16, .inl ft))]) (wr := []) ⟨hx, hb, hml, hown, hts⟩ (cc_bringIn l dC dI cI cZ cO cL q sb wy kd bb hi (mi + (nI 1)) vi wb fb fd fs ft a (tr a) (nI b) (hwy) (hk2) (ha) ((htr a ha).1) ((htr a ha).2) (hkd) (hbit)) (zz_cwV hts kj_222 kj_33 kj_220 kj_221 kj_4 kz_C_bringIn rfl rfl ⟨Nat.le_of_ble_eq_true rfl, Nat.le_of_ble_eq_true rfl⟩) (hP.sub [3, 4, 0, 1, 2] rfl) (hD.sub [3, 4, 0, 1, 2] (by decide) rfl) hK hS hA (q0 := 0) rfl rfl rfl rfl hl.1 rfl (Nat.le_of_ble_eq_true rfl) kd_C_sees_75 ⟨by decide, by decide⟩ (fun r9 w9 H locs hw hP hD hS => ?_)
    obtain ⟨pl_5, vi2_6, wb2_7, rfl, rfl, hbi75⟩ := hw
    have hP : va_P (dC, dI) zk_cl [(q 0, zc_ob q sb wy kd bb hi (mi + (nI 1)) vi2_6 wb2_7), (q 1, .inl (cI, 128, .inl (upd fb (a * wy + pl_5) (nI b)))), (q 2, .inl (cZ, 128, .inl (upd fd (a * wy + pl_5) (nI 0)))), (q 3, .inl (cI, 128, .inl fs)), (q 4, .inl (cI, 16, .inl ft))] H := hP
    have hD : va_D A [(q 0, zc_ob q sb wy kd bb hi (mi + (nI 1)) vi2_6 wb2_7), (q 1, .inl (cI, 128, .inl (upd fb (a * wy + pl_5) (nI b)))), (q 2, .inl (cZ, 128, .inl (upd fd (a * wy + pl_5) (nI 0)))), (q 3, .inl (cI, 128, .inl fs)), (q 4, .inl (cI, 16, .inl ft))] := hD
    refine lv_istore (lv' := [(6, .int (nI pl_5)), (7, .int (nI 0)), (5, .int (nI a)), (4, .int (nI b)), (0, .ref (q 0)), (1, .int (nI ad)), (2, .int wr), (3, .int num)]) hx hb kd_C_sees_78 hl (by decide) rfl (fun ls hl => ?_)
    exact hc80 0 pl_5 (upd fb (a * wy + pl_5) (nI b)) (upd fd (a * wy + pl_5) (nI 0)) hi (mi + (nI 1)) vi2_6 wb2_7  (by first | exact hpl0 | exact hbi75.1) (by first | exact Or.inl ⟨rfl, fp24, rfl, rfl, rfl, rfl, rfl⟩ | exact Or.inr ⟨rfl, c32 ▸ fp24, hbi75, rfl, rfl, rfl⟩) (by first | exact ⟨fun _ _ => rfl, by rw [if_pos rfl]⟩ | exact ⟨fun j hj => pk_un hj, by rw [pk_us, if_neg (by decide)]; rfl⟩) _ _ hP hD hS ls (lv_sub hl [4, 6, 7, 2, 0, 1] rfl)
  · skip
    obtain ⟨pl0, hpl0, rfl⟩ := zf_FP_lt fp24 c32
    refine lv_iconst (v := nI 1) hx hb kd_C_sees_35 (by decide) ?_
    refine lv_goto (tgt := 40) hx hb kd_C_sees_36 (by decide) ?_
    refine lv_istore (lv' := [(7, .int (nI 1)), (6, .int (nI pl0)), (5, .int (nI a)), (4, .int (nI b)), (0, .ref (q 0)), (1, .int (nI ad)), (2, .int wr), (3, .int num)]) hx hb kd_C_sees_40 hl (by decide) rfl (fun ls hl => ?_)
    refine lv_iload hx hb kd_C_sees_42 (lv_at hl 0 rfl) ?_
    refine zz_if_eq (tgt := 60) hx hb kd_C_sees_44 (by decide) (by decide) (fun c9 => absurd c9 (by decide)) (fun _ => ?_)
    refine lv_aload_n hx hb kd_C_sees_47 rfl (lv_at hl 4 rfl) ?_
    refine lv_dup hx hb kd_C_sees_48 rfl ?_
    refine va_get (D := (dC, dI)) (ci := 0) (v := .int hi) (C := zk_RC) (T := zk_TC) (N := 12) hx hb hts kl_C hown hK hP 3 rfl rfl 8 (by decide) (hts _ kj_150) (fun _ h9 => h9) rfl kd_C_sees_49 ?_
    refine lv_iconst (v := nI 1) hx hb kd_C_sees_52 (by decide) ?_
    refine lv_iadd hx hb kd_C_sees_53 ?_
    refine va_put (D := (dC, dI)) (ci := 0) (v := .int (hi + (nI 1))) (ty := .int) (C := zk_RC) (T := zk_TC) (N := 12) hx hb hts kl_C zk_tC zk_kC zk_nC hown hK hP hD hS 3 rfl rfl 8 (by decide) (hts _ kj_150) (fun _ h9 => h9) rfl (by decide +kernel) rfl rfl (Nat.le_of_ble_eq_true rfl) kd_C_sees_54 (fun H locs hP hD hS => ?_)
    have hP : va_P (dC, dI) zk_cl [(q 2, .inl (cZ, 128, .inl fd)), (q 3, .inl (cI, 128, .inl fs)), (q 4, .inl (cI, 16, .inl ft)), (q 0, zc_ob q sb wy kd bb (hi + (nI 1)) mi vi wb), (q 1, .inl (cI, 128, .inl fb))] H := hP
    have hD : va_D A [(q 2, .inl (cZ, 128, .inl fd)), (q 3, .inl (cI, 128, .inl fs)), (q 4, .inl (cI, 16, .inl ft)), (q 0, zc_ob q sb wy kd bb (hi + (nI 1)) mi vi wb), (q 1, .inl (cI, 128, .inl fb))] := hD
    refine lv_goto (tgt := 80) hx hb kd_C_sees_57 (by decide) ?_
    exact hc80 1 pl0 fb fd (hi + (nI 1)) mi vi wb  (by first | exact hpl0 | exact hbi75.1) (by first | exact Or.inl ⟨rfl, fp24, rfl, rfl, rfl, rfl, rfl⟩ | exact Or.inr ⟨rfl, c32 ▸ fp24, hbi75, rfl, rfl, rfl⟩) (by first | exact ⟨fun _ _ => rfl, by rw [if_pos rfl]⟩ | exact ⟨fun j hj => pk_un hj, by rw [pk_us, if_neg (by decide)]; rfl⟩) _ _ (hP.sub [3, 4, 0, 1, 2] rfl) (hD.sub [3, 4, 0, 1, 2] (by decide) rfl) hS ls (lv_sub hl [4, 6, 7, 2, 1, 0] rfl)
