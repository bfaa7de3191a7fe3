def rm_cc_countSets : Room := { frames := 0, cells := 0, slots := 0, locals := 0 }
set_option maxHeartbeats 4000000 in
set_option maxRecDepth 100000 in
/-- how many sets -/
theorem cc_countSets (l : Launch) (dC : Nat → ClassId) (dI : Nat → Nat → Nat) (cI cZ cO cL : ClassId) (q : Nat → Nat) (sb : Nat) (wy : Nat) (kd : Nat) (bb : Nat) (hi : Int32) (mi : Int32) (vi : Int32) (wb : Int32) (hsb : sb ≤ 4) : zz_Mi l ky_C_countSets kw_C_countSets rm_cc_countSets (dC, dI) (zz_ty cI cZ cO cL) [(q 0, zc_ob q sb wy kd bb hi mi vi wb)] [.ref (q 0)] (fun (r : Int32) (w : va_W) => w = [(q 0, zc_ob q sb wy kd bb hi mi vi wb)] ∧ (r = nI (2 ^ sb))) 0 0 := by
  refine zz_entry_i (cc := kb_C_countSets) (maxL := 1) (own := zk_RC) (by decide) rfl rfl (Nat.le_of_ble_eq_true rfl) ?_
  intro p e s m args below meth c Q hx hb hml hown hts hin hP hK A hD hA hS hret ls hl
  have hl : lv_has ls 1 [(0, .ref (q 0))] := hl
  obtain ⟨H, eH⟩ : ∃ z, z = s.heap := ⟨_, rfl⟩
  obtain ⟨locs, eL⟩ : ∃ z : List Loc, z = [] := ⟨_, rfl⟩
  rw [← eH] at hP ⊢
  have hS : va_S A s.heap H locs := by rw [eH, eL]; exact hS
  rw [← eL]
  refine lv_iconst (v := nI 1) hx hb kd_C_countSets_0 (by decide) ?_
  refine lv_aload_n hx hb kd_C_countSets_1 rfl (lv_at hl 0 rfl) ?_
  refine va_get (D := (dC, dI)) (ci := 0) (v := .int (nI sb)) (C := zk_RC) (T := zk_TC) (N := 12) hx hb hts kl_C hown hK hP 0 rfl rfl 0 (by decide) (hts _ kj_142) (fun _ h9 => h9) rfl kd_C_countSets_2 ?_
  refine lv_ishl hx hb kd_C_countSets_5 ?_
  refine zz_top (y := nI (2 ^ sb)) (zn_shl1 (by omega)) ?_
  exact hret _ _ _ _ _ _ kd_C_countSets_6 hP hD hS (⟨rfl, rfl⟩)

def rm_cc_slotOf : Room := { frames := 0, cells := 0, slots := 0, locals := 0 }
set_option maxHeartbeats 4000000 in
set_option maxRecDepth 100000 in
/-- where a place of a set lies -/
theorem cc_slotOf (l : Launch) (dC : Nat → ClassId) (dI : Nat → Nat → Nat) (cI cZ cO cL : ClassId) (q : Nat → Nat) (sb : Nat) (wy : Nat) (kd : Nat) (bb : Nat) (hi : Int32) (mi : Int32) (vi : Int32) (wb : Int32) (a : Nat) (b : Nat)  : zz_Mi l ky_C_slotOf kw_C_slotOf rm_cc_slotOf (dC, dI) (zz_ty cI cZ cO cL) [(q 0, zc_ob q sb wy kd bb hi mi vi wb)] [.ref (q 0), .int (nI a), .int (nI b)] (fun (r : Int32) (w : va_W) => w = [(q 0, zc_ob q sb wy kd bb hi mi vi wb)] ∧ (r = nI (a * wy + b))) 0 0 := by
  refine zz_entry_i (cc := kb_C_slotOf) (maxL := 3) (own := zk_RC) (by decide) rfl rfl (Nat.le_of_ble_eq_true rfl) ?_
  intro p e s m args below meth c Q hx hb hml hown hts hin hP hK A hD hA hS hret ls hl
  have hl : lv_has ls 3 [(0, .ref (q 0)), (1, .int (nI a)), (2, .int (nI b))] := hl
  obtain ⟨H, eH⟩ : ∃ z, z = s.heap := ⟨_, rfl⟩
  obtain ⟨locs, eL⟩ : ∃ z : List Loc, z = [] := ⟨_, rfl⟩
  rw [← eH] at hP ⊢
  have hS : va_S A s.heap H locs := by rw [eH, eL]; exact hS
  rw [← eL]
  refine lv_iload_n hx hb kd_C_slotOf_0 rfl (lv_at hl 1 rfl) ?_
  refine lv_aload_n hx hb kd_C_slotOf_1 rfl (lv_at hl 0 rfl) ?_
  refine va_get (D := (dC, dI)) (ci := 0) (v := .int (nI wy)) (C := zk_RC) (T := zk_TC) (N := 12) hx hb hts kl_C hown hK hP 0 rfl rfl 1 (by decide) (hts _ kj_143) (fun _ h9 => h9) rfl kd_C_slotOf_2 ?_
  refine lv_imul hx hb kd_C_slotOf_5 ?_
  refine zz_top (y := nI (a * wy)) (pk_mul _ _) ?_
  refine lv_iload_n hx hb kd_C_slotOf_6 rfl (lv_at hl 2 rfl) ?_
  refine lv_iadd hx hb kd_C_slotOf_7 ?_
  refine zz_top (y := nI (a * wy + b)) (nI_add _ _) ?_
  exact hret _ _ _ _ _ _ kd_C_slotOf_8 hP hD hS (⟨rfl, rfl⟩)

def rm_cc_blockAt : Room := { frames := 1, cells := 0, slots := 0, locals := 22 }
set_option maxHeartbeats 4000000 in
set_option maxRecDepth 100000 in
/-- the block at a place -/
theorem cc_blockAt (l : Launch) (dC : Nat → ClassId) (dI : Nat → Nat → Nat) (cI cZ cO cL : ClassId) (q : Nat → Nat) (sb : Nat) (wy : Nat) (kd : Nat) (bb : Nat) (hi : Int32) (mi : Int32) (vi : Int32) (wb : Int32) (fb : Nat → Int32) (a : Nat) (b : Nat) (hi0 : a * wy + b < 128) : zz_Mi l ky_C_blockAt kw_C_blockAt rm_cc_blockAt (dC, dI) (zz_ty cI cZ cO cL) [(q 0, zc_ob q sb wy kd bb hi mi vi wb), (q 1, .inl (cI, 128, .inl fb))] [.ref (q 0), .int (nI a), .int (nI b)] (fun (r : Int32) (w : va_W) => w = [(q 0, zc_ob q sb wy kd bb hi mi vi wb), (q 1, .inl (cI, 128, .inl fb))] ∧ (r = fb (a * wy + b))) 0 0 := by
  refine zz_entry_i (cc := kb_C_blockAt) (maxL := 3) (own := zk_RC) (by decide) rfl rfl (Nat.le_of_ble_eq_true rfl) ?_
  intro p e s m args below meth c Q hx hb hml hown hts hin hP hK A hD hA hS hret ls hl
  have hl : lv_has ls 3 [(0, .ref (q 0)), (1, .int (nI a)), (2, .int (nI b))] := hl
  obtain ⟨H, eH⟩ : ∃ z, z = s.heap := ⟨_, rfl⟩
  obtain ⟨locs, eL⟩ : ∃ z : List Loc, z = [] := ⟨_, rfl⟩
  rw [← eH] at hP ⊢
  have hS : va_S A s.heap H locs := by rw [eH, eL]; exact hS
  rw [← eL]
  refine lv_aload_n hx hb kd_C_blockAt_0 rfl (lv_at hl 0 rfl) ?_
  refine va_get (D := (dC, dI)) (ci := 0) (v := .ref (q 1)) (C := zk_RC) (T := zk_TC) (N := 12) hx hb hts kl_C hown hK hP 0 rfl rfl 4 (by decide) (hts _ kj_146) (fun _ h9 => h9) rfl kd_C_blockAt_1 ?_
  refine lv_aload_n hx hb kd_C_blockAt_4 rfl (lv_at hl 0 rfl) ?_
  refine lv_iload_n hx hb kd_C_blockAt_5 rfl (lv_at hl 1 rfl) ?_
  refine lv_iload_n hx hb kd_C_blockAt_6 rfl (lv_at hl 2 rfl) ?_
  refine zz_iV (As := [.int (nI a), .int (nI b)]) (rest := [.ref (q 1)]) (wc := [(q 0, zc_ob q sb wy kd bb hi mi vi wb)]) (wr := [(q 1, .inl (cI, 128, .inl fb))]) ⟨hx, hb, hml, hown, hts⟩ (cc_slotOf l dC dI cI cZ cO cL q sb wy kd bb hi mi vi wb a b ) (zz_cwV hts kj_219 kj_33 kj_217 kj_218 kj_3 kz_C_slotOf rfl rfl ⟨Nat.le_of_ble_eq_true rfl, Nat.le_of_ble_eq_true rfl⟩) (hP.sub [1, 0] rfl) (hD.sub [1, 0] (by decide) rfl) hK hS hA (q0 := 0) rfl rfl rfl rfl hl.1 rfl (Nat.le_of_ble_eq_true rfl) kd_C_blockAt_7 ⟨by decide, by decide⟩ (fun r9 w9 H locs hw hP hD hS => ?_)
  obtain ⟨rfl, rfl⟩ := hw
  have hP : va_P (dC, dI) zk_cl [(q 1, .inl (cI, 128, .inl fb)), (q 0, zc_ob q sb wy kd bb hi mi vi wb)] H := hP
  have hD : va_D A [(q 1, .inl (cI, 128, .inl fb)), (q 0, zc_ob q sb wy kd bb hi mi vi wb)] := hD
  refine zz_iald hx hb hK hP 0 0 rfl rfl (k := a * wy + b) hi0 (by decide) kd_C_blockAt_10 ?_
  exact hret _ _ _ _ _ _ kd_C_blockAt_11 (hP.sub [1, 0] rfl) (hD.sub [1, 0] (by decide) rfl) hS (⟨rfl, rfl⟩)

def rm_cc_isDirtyAt : Room := { frames := 1, cells := 0, slots := 0, locals := 22 }
set_option maxHeartbeats 4000000 in
set_option maxRecDepth 100000 in
/-- whether it is dirty -/
theorem cc_isDirtyAt (l : Launch) (dC : Nat → ClassId) (dI : Nat → Nat → Nat) (cI cZ cO cL : ClassId) (q : Nat → Nat) (sb : Nat) (wy : Nat) (kd : Nat) (bb : Nat) (hi : Int32) (mi : Int32) (vi : Int32) (wb : Int32) (fd : Nat → Int32) (a : Nat) (b : Nat) (hi0 : a * wy + b < 128) (hb0 : fd (a * wy + b) = 0 ∨ fd (a * wy + b) = 1) : zz_Mi l ky_C_isDirtyAt kw_C_isDirtyAt rm_cc_isDirtyAt (dC, dI) (zz_ty cI cZ cO cL) [(q 0, zc_ob q sb wy kd bb hi mi vi wb), (q 2, .inl (cZ, 128, .inl fd))] [.ref (q 0), .int (nI a), .int (nI b)] (fun (r : Int32) (w : va_W) => w = [(q 0, zc_ob q sb wy kd bb hi mi vi wb), (q 2, .inl (cZ, 128, .inl fd))] ∧ (r = fd (a * wy + b))) 0 0 := by
  refine zz_entry_z (cc := kb_C_isDirtyAt) (maxL := 3) (own := zk_RC) (by decide) rfl rfl (Nat.le_of_ble_eq_true rfl) ?_
  intro p e s m args below meth c Q hx hb hml hown hts hin hP hK A hD hA hS hret ls hl
  have hl : lv_has ls 3 [(0, .ref (q 0)), (1, .int (nI a)), (2, .int (nI b))] := hl
  obtain ⟨H, eH⟩ : ∃ z, z = s.heap := ⟨_, rfl⟩
  obtain ⟨locs, eL⟩ : ∃ z : List Loc, z = [] := ⟨_, rfl⟩
  rw [← eH] at hP ⊢
  have hS : va_S A s.heap H locs := by rw [eH, eL]; exact hS
  rw [← eL]
  refine lv_aload_n hx hb kd_C_isDirtyAt_0 rfl (lv_at hl 0 rfl) ?_
  refine va_get (D := (dC, dI)) (ci := 0) (v := .ref (q 2)) (C := zk_RC) (T := zk_TC) (N := 12) hx hb hts kl_C hown hK hP 0 rfl rfl 5 (by decide) (hts _ kj_147) (fun _ h9 => h9) rfl kd_C_isDirtyAt_1 ?_
  refine lv_aload_n hx hb kd_C_isDirtyAt_4 rfl (lv_at hl 0 rfl) ?_
  refine lv_iload_n hx hb kd_C_isDirtyAt_5 rfl (lv_at hl 1 rfl) ?_
  refine lv_iload_n hx hb kd_C_isDirtyAt_6 rfl (lv_at hl 2 rfl) ?_
  refine zz_iV (As := [.int (nI a), .int (nI b)]) (rest := [.ref (q 2)]) (wc := [(q 0, zc_ob q sb wy kd bb hi mi vi wb)]) (wr := [(q 2, .inl (cZ, 128, .inl fd))]) ⟨hx, hb, hml, hown, hts⟩ (cc_slotOf l dC dI cI cZ cO cL q sb wy kd bb hi mi vi wb a b ) (zz_cwV hts kj_219 kj_33 kj_217 kj_218 kj_3 kz_C_slotOf rfl rfl ⟨Nat.le_of_ble_eq_true rfl, Nat.le_of_ble_eq_true rfl⟩) (hP.sub [1, 0] rfl) (hD.sub [1, 0] (by decide) rfl) hK hS hA (q0 := 0) rfl rfl rfl rfl hl.1 rfl (Nat.le_of_ble_eq_true rfl) kd_C_isDirtyAt_7 ⟨by decide, by decide⟩ (fun r9 w9 H locs hw hP hD hS => ?_)
  obtain ⟨rfl, rfl⟩ := hw
  have hP : va_P (dC, dI) zk_cl [(q 2, .inl (cZ, 128, .inl fd)), (q 0, zc_ob q sb wy kd bb hi mi vi wb)] H := hP
  have hD : va_D A [(q 2, .inl (cZ, 128, .inl fd)), (q 0, zc_ob q sb wy kd bb hi mi vi wb)] := hD
  refine zz_zald hx hb hK hP 0 1 rfl rfl (k := a * wy + b) hi0 (by decide) kd_C_isDirtyAt_10 ?_
  exact hret _ _ _ _ _ _ hb0 kd_C_isDirtyAt_11 (hP.sub [1, 0] rfl) (hD.sub [1, 0] (by decide) rfl) hS (⟨rfl, rfl⟩)

def rm_cc_findPlace : Room := { frames := 2, cells := 0, slots := 0, locals := 44 }
set_option maxHeartbeats 4000000 in
set_option maxRecDepth 100000 in
/-- the first place that holds the block -/
theorem cc_findPlace (l : Launch) (dC : Nat → ClassId) (dI : Nat → Nat → Nat) (cI cZ cO cL : ClassId) (q : Nat → Nat) (sb : Nat) (wy : Nat) (kd : Nat) (bb : Nat) (hi : Int32) (mi : Int32) (vi : Int32) (wb : Int32) (fb : Nat → Int32) (a : Nat) (x : Int32) (hwy : wy ≤ 8) (hi0 : a * wy + wy ≤ 128) : zz_Mi l ky_C_findPlace kw_C_findPlace rm_cc_findPlace (dC, dI) (zz_ty cI cZ cO cL) [(q 0, zc_ob q sb wy kd bb hi mi vi wb), (q 1, .inl (cI, 128, .inl fb))] [.ref (q 0), .int (nI a), .int x] (fun (r : Int32) (w : va_W) => w = [(q 0, zc_ob q sb wy kd bb hi mi vi wb), (q 1, .inl (cI, 128, .inl fb))] ∧ (zf_FP (fun k => fb (a * wy + k)) wy x r)) 0 0 := by
  refine zz_entry_i (cc := kb_C_findPlace) (maxL := 4) (own := zk_RC) (by decide) rfl rfl (Nat.le_of_ble_eq_true rfl) ?_
  intro p e s m args below meth c Q hx hb hml hown hts hin hP hK A hD hA hS hret ls hl
  have hl : lv_has ls 4 [(0, .ref (q 0)), (1, .int (nI a)), (2, .int x)] := hl
  obtain ⟨H, eH⟩ : ∃ z, z = s.heap := ⟨_, rfl⟩
  obtain ⟨locs, eL⟩ : ∃ z : List Loc, z = [] := ⟨_, rfl⟩
  rw [← eH] at hP ⊢
  have hS : va_S A s.heap H locs := by rw [eH, eL]; exact hS
  rw [← eL]
  refine lv_iconst (v := nI 0) hx hb kd_C_findPlace_0 (by decide) ?_
  refine lv_istore_n (lv' := [(3, .int (nI 0)), (0, .ref (q 0)), (1, .int (nI a)), (2, .int x)]) hx hb kd_C_findPlace_1 rfl hl (by decide) rfl (fun ls hl => ?_)
  have hc2 : ∀ (nn : Nat), ∀ (k : Nat), wy - k < nn → (k ≤ wy) → (∀ j, j < k → fb (a * wy + j) ≠ x) → ∀ (H : Heap) (locs : List Loc), va_P (dC, dI) zk_cl [(q 0, zc_ob q sb wy kd bb hi mi vi wb), (q 1, .inl (cI, 128, .inl fb))] H → va_D A [(q 0, zc_ob q sb wy kd bb hi mi vi wb), (q 1, .inl (cI, 128, .inl fb))] → va_S A s.heap H locs → ∀ ls : Array Slot, lv_has ls 4 [(0, .ref (q 0)), (1, .int (nI a)), (2, .int x), (3, .int (nI k))] → W p l e rm_cc_findPlace s m args below meth c H locs 0 0 Q (F0 m 2 ls []) := by
    intro nn
    induction nn with
    | zero => intro k hm; exact absurd hm (Nat.not_lt_zero _)
    | succ nn ih =>
      intro k hm hk hn H locs hP hD hS ls hl
      refine lv_iload_n hx hb kd_C_findPlace_2 rfl (lv_at hl 3 rfl) ?_
      refine lv_aload_n hx hb kd_C_findPlace_3 rfl (lv_at hl 0 rfl) ?_
      refine va_get (D := (dC, dI)) (ci := 0) (v := .int (nI wy)) (C := zk_RC) (T := zk_TC) (N := 12) hx hb hts kl_C hown hK hP 0 rfl rfl 1 (by decide) (hts _ kj_143) (fun _ h9 => h9) rfl kd_C_findPlace_4 ?_
      refine zz_icmp_ge (tgt := 28) hx hb kd_C_findPlace_7 (by decide) (by omega) (by omega) (fun c7 => ?_) (fun c7 => ?_)
      · skip
        refine lv_iconst (v := (-1)) hx hb kd_C_findPlace_28 (by decide) ?_
        exact hret _ _ _ _ _ _ kd_C_findPlace_29 hP hD hS (⟨rfl, (Or.inr ⟨rfl, fun j h => hn j (by omega)⟩)⟩)
      · skip
        refine lv_aload_n hx hb kd_C_findPlace_10 rfl (lv_at hl 0 rfl) ?_
        refine lv_iload_n hx hb kd_C_findPlace_11 rfl (lv_at hl 1 rfl) ?_
        refine lv_iload_n hx hb kd_C_findPlace_12 rfl (lv_at hl 3 rfl) ?_
        refine zz_iV (As := [.int (nI a), .int (nI k)]) (rest := []) (wc := [(q 0, zc_ob q sb wy kd bb hi mi vi wb), (q 1, .inl (cI, 128, .inl fb))]) (wr := []) ⟨hx, hb, hml, hown, hts⟩ (cc_blockAt l dC dI cI cZ cO cL q sb wy kd bb hi mi vi wb fb a k (by omega)) (zz_cwV hts kj_216 kj_33 kj_213 kj_214 kj_215 kz_C_blockAt rfl rfl ⟨Nat.le_of_ble_eq_true rfl, Nat.le_of_ble_eq_true rfl⟩) hP hD hK hS hA (q0 := 0) rfl rfl rfl rfl hl.1 rfl (Nat.le_of_ble_eq_true rfl) kd_C_findPlace_13 ⟨by decide, by decide⟩ (fun r9 w9 H locs hw hP hD hS => ?_)
        obtain ⟨rfl, rfl⟩ := hw
        have hP : va_P (dC, dI) zk_cl [(q 0, zc_ob q sb wy kd bb hi mi vi wb), (q 1, .inl (cI, 128, .inl fb))] H := hP
        have hD : va_D A [(q 0, zc_ob q sb wy kd bb hi mi vi wb), (q 1, .inl (cI, 128, .inl fb))] := hD
        refine lv_iload_n hx hb kd_C_findPlace_16 rfl (lv_at hl 2 rfl) ?_
        refine lv_icmp_ne (tgt := 22) hx hb kd_C_findPlace_17 (by decide) (fun c17 => ?_) (fun c17 => ?_)
        · skip
          refine lv_iinc (v := nI (k + 1)) (lv' := [(3, .int (nI (k + 1))), (0, .ref (q 0)), (1, .int (nI a)), (2, .int x)]) hx hb kd_C_findPlace_22 hl (k := 3) rfl (by first | exact nI_1 _ | (show _ + _ = _; exact nI_1 _)) (by decide) rfl (fun ls hl => ?_)
          refine lv_goto (tgt := 2) hx hb kd_C_findPlace_25 (by decide) ?_
          exact ih (k + 1) (by omega) (by omega) (fun j h => by
            rcases Nat.lt_or_ge j k with z | z
            · exact hn j z
            · rw [show j = k by omega]; exact c17) _ _ hP hD hS ls (lv_sub hl [1, 2, 3, 0] rfl)
        · skip
          refine lv_iload_n hx hb kd_C_findPlace_20 rfl (lv_at hl 3 rfl) ?_
          exact hret _ _ _ _ _ _ kd_C_findPlace_21 hP hD hS (⟨rfl, (Or.inl ⟨k, by omega, rfl, c17, hn⟩)⟩)
  exact hc2 _ 0 (Nat.lt_succ_self _) (by omega) (fun j h => by omega) _ _ hP hD hS ls (lv_sub hl [1, 2, 3, 0] rfl)
