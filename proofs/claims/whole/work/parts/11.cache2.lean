def rm_cc_countHeld : Room := { frames := 0, cells := 0, slots := 0, locals := 0 }
set_option maxHeartbeats 4000000 in
set_option maxRecDepth 100000 in
/-- how many blocks it has -/
theorem cc_countHeld (l : Launch) (dC : Nat → ClassId) (dI : Nat → Nat → Nat) (cI cZ cO cL : ClassId) (q : Nat → Nat) (sb : Nat) (wy : Nat) (kd : Nat) (bb : Nat) (hi : Int32) (mi : Int32) (vi : Int32) (wb : Int32) (fb : Nat → Int32)  : zz_Mi l ky_C_countHeld kw_C_countHeld rm_cc_countHeld (dC, dI) (zz_ty cI cZ cO cL) [(q 0, zc_ob q sb wy kd bb hi mi vi wb), (q 1, .inl (cI, 128, .inl fb))] [.ref (q 0)] (fun (r : Int32) (w : va_W) => w = [(q 0, zc_ob q sb wy kd bb hi mi vi wb), (q 1, .inl (cI, 128, .inl fb))] ∧ (r = nI (zf_ct (fun j => decide (fb j ≠ -1)) 128))) 0 0 := by
  refine zz_entry_i (cc := kb_C_countHeld) (maxL := 3) (own := zk_RC) (by decide) rfl rfl (Nat.le_of_ble_eq_true rfl) ?_
  intro p e s m args below meth c Q hx hb hml hown hts hin hP hK A hD hA hS hret ls hl
  have hl : lv_has ls 3 [(0, .ref (q 0))] := hl
  obtain ⟨H, eH⟩ : ∃ z, z = s.heap := ⟨_, rfl⟩
  obtain ⟨locs, eL⟩ : ∃ z : List Loc, z = [] := ⟨_, rfl⟩
  rw [← eH] at hP ⊢
  have hS : va_S A s.heap H locs := by rw [eH, eL]; exact hS
  rw [← eL]
  refine lv_iconst (v := nI 0) hx hb kd_C_countHeld_0 (by decide) ?_
  refine lv_istore_n (lv' := [(1, .int (nI 0)), (0, .ref (q 0))]) hx hb kd_C_countHeld_1 rfl hl (by decide) rfl (fun ls hl => ?_)
  refine lv_iconst (v := nI 0) hx hb kd_C_countHeld_2 (by decide) ?_
  refine lv_istore_n (lv' := [(2, .int (nI 0)), (1, .int (nI 0)), (0, .ref (q 0))]) hx hb kd_C_countHeld_3 rfl hl (by decide) rfl (fun ls hl => ?_)
  have hc4 : ∀ (nn : Nat), ∀ (n : Nat) (k : Nat), 128 - k < nn → (k ≤ 128) → (n = zf_ct (fun j => decide (fb j ≠ -1)) k) → ∀ (H : Heap) (locs : List Loc), va_P (dC, dI) zk_cl [(q 0, zc_ob q sb wy kd bb hi mi vi wb), (q 1, .inl (cI, 128, .inl fb))] H → va_D A [(q 0, zc_ob q sb wy kd bb hi mi vi wb), (q 1, .inl (cI, 128, .inl fb))] → va_S A s.heap H locs → ∀ ls : Array Slot, lv_has ls 3 [(0, .ref (q 0)), (1, .int (nI n)), (2, .int (nI k))] → W p l e rm_cc_countHeld s m args below meth c H locs 0 0 Q (F0 m 4 ls []) := by
    intro nn
    induction nn with
    | zero => intro n k hm; exact absurd hm (Nat.not_lt_zero _)
    | succ nn ih =>
      intro n k hm hk hn H locs hP hD hS ls hl
      refine lv_iload_n hx hb kd_C_countHeld_4 rfl (lv_at hl 2 rfl) ?_
      refine lv_aload_n hx hb kd_C_countHeld_5 rfl (lv_at hl 0 rfl) ?_
      refine va_get (D := (dC, dI)) (ci := 0) (v := .ref (q 1)) (C := zk_RC) (T := zk_TC) (N := 12) hx hb hts kl_C hown hK hP 0 rfl rfl 4 (by decide) (hts _ kj_146) (fun _ h9 => h9) rfl kd_C_countHeld_6 ?_
      refine va_alen (v := nI 128) hx hb hK hP 1 0 rfl rfl rfl kd_C_countHeld_9 ?_
      refine zz_icmp_ge (tgt := 32) hx hb kd_C_countHeld_10 (by decide) (by omega) (by decide) (fun c10 => ?_) (fun c10 => ?_)
      · skip
        refine lv_iload_n hx hb kd_C_countHeld_32 rfl (lv_at hl 1 rfl) ?_
        exact hret _ _ _ _ _ _ kd_C_countHeld_33 hP hD hS (⟨rfl, by rw [hn, show k = 128 by omega]⟩)
      · skip
        refine lv_aload_n hx hb kd_C_countHeld_13 rfl (lv_at hl 0 rfl) ?_
        refine va_get (D := (dC, dI)) (ci := 0) (v := .ref (q 1)) (C := zk_RC) (T := zk_TC) (N := 12) hx hb hts kl_C hown hK hP 0 rfl rfl 4 (by decide) (hts _ kj_146) (fun _ h9 => h9) rfl kd_C_countHeld_14 ?_
        refine lv_iload_n hx hb kd_C_countHeld_17 rfl (lv_at hl 2 rfl) ?_
        refine zz_iald hx hb hK hP 1 0 rfl rfl (k := k) (by omega) (by decide) kd_C_countHeld_18 ?_
        refine lv_iconst (v := (-1)) hx hb kd_C_countHeld_19 (by decide) ?_
        refine lv_icmp_eq (tgt := 26) hx hb kd_C_countHeld_20 (by decide) (fun c20 => ?_) (fun c20 => ?_)
        · skip
          refine lv_iinc (v := nI (k + 1)) (lv' := [(2, .int (nI (k + 1))), (0, .ref (q 0)), (1, .int (nI n))]) hx hb kd_C_countHeld_26 hl (k := 2) rfl (by first | exact nI_1 _ | (show _ + _ = _; exact nI_1 _)) (by decide) rfl (fun ls hl => ?_)
          refine lv_goto (tgt := 4) hx hb kd_C_countHeld_29 (by decide) ?_
          exact ih n (k + 1) (by omega) (by omega) (by first | (rw [zf_ct_t (by simp [c20]), hn]; done) | (rw [zf_ct_f (by simp [c20]), hn]; done)) _ _ hP hD hS ls (lv_sub hl [1, 2, 0] rfl)
        · skip
          refine lv_iinc (v := nI (n + 1)) (lv' := [(1, .int (nI (n + 1))), (0, .ref (q 0)), (2, .int (nI k))]) hx hb kd_C_countHeld_23 hl (k := 1) rfl (by first | exact nI_1 _ | (show _ + _ = _; exact nI_1 _)) (by decide) rfl (fun ls hl => ?_)
          refine lv_iinc (v := nI (k + 1)) (lv' := [(2, .int (nI (k + 1))), (1, .int (nI (n + 1))), (0, .ref (q 0))]) hx hb kd_C_countHeld_26 hl (k := 2) rfl (by first | exact nI_1 _ | (show _ + _ = _; exact nI_1 _)) (by decide) rfl (fun ls hl => ?_)
          refine lv_goto (tgt := 4) hx hb kd_C_countHeld_29 (by decide) ?_
          exact ih (n + 1) (k + 1) (by omega) (by omega) (by first | (rw [zf_ct_t (by simp [c20]), hn]; done) | (rw [zf_ct_f (by simp [c20]), hn]; done)) _ _ hP hD hS ls (lv_sub hl [2, 1, 0] rfl)
  exact hc4 _ 0 0 (Nat.lt_succ_self _) (by omega) (rfl) _ _ hP hD hS ls (lv_sub hl [2, 1, 0] rfl)

def rm_cc_countDirty : Room := { frames := 0, cells := 0, slots := 0, locals := 0 }
set_option maxHeartbeats 4000000 in
set_option maxRecDepth 100000 in
/-- how many of them are dirty -/
theorem cc_countDirty (l : Launch) (dC : Nat → ClassId) (dI : Nat → Nat → Nat) (cI cZ cO cL : ClassId) (q : Nat → Nat) (sb : Nat) (wy : Nat) (kd : Nat) (bb : Nat) (hi : Int32) (mi : Int32) (vi : Int32) (wb : Int32) (fd : Nat → Int32)  : zz_Mi l ky_C_countDirty kw_C_countDirty rm_cc_countDirty (dC, dI) (zz_ty cI cZ cO cL) [(q 0, zc_ob q sb wy kd bb hi mi vi wb), (q 2, .inl (cZ, 128, .inl fd))] [.ref (q 0)] (fun (r : Int32) (w : va_W) => w = [(q 0, zc_ob q sb wy kd bb hi mi vi wb), (q 2, .inl (cZ, 128, .inl fd))] ∧ (r = nI (zf_ct (fun j => decide (fd j ≠ 0)) 128))) 0 0 := by
  refine zz_entry_i (cc := kb_C_countDirty) (maxL := 3) (own := zk_RC) (by decide) rfl rfl (Nat.le_of_ble_eq_true rfl) ?_
  intro p e s m args below meth c Q hx hb hml hown hts hin hP hK A hD hA hS hret ls hl
  have hl : lv_has ls 3 [(0, .ref (q 0))] := hl
  obtain ⟨H, eH⟩ : ∃ z, z = s.heap := ⟨_, rfl⟩
  obtain ⟨locs, eL⟩ : ∃ z : List Loc, z = [] := ⟨_, rfl⟩
  rw [← eH] at hP ⊢
  have hS : va_S A s.heap H locs := by rw [eH, eL]; exact hS
  rw [← eL]
  refine lv_iconst (v := nI 0) hx hb kd_C_countDirty_0 (by decide) ?_
  refine lv_istore_n (lv' := [(1, .int (nI 0)), (0, .ref (q 0))]) hx hb kd_C_countDirty_1 rfl hl (by decide) rfl (fun ls hl => ?_)
  refine lv_iconst (v := nI 0) hx hb kd_C_countDirty_2 (by decide) ?_
  refine lv_istore_n (lv' := [(2, .int (nI 0)), (1, .int (nI 0)), (0, .ref (q 0))]) hx hb kd_C_countDirty_3 rfl hl (by decide) rfl (fun ls hl => ?_)
  have hc4 : ∀ (nn : Nat), ∀ (n : Nat) (k : Nat), 128 - k < nn → (k ≤ 128) → (n = zf_ct (fun j => decide (fd j ≠ 0)) k) → ∀ (H : Heap) (locs : List Loc), va_P (dC, dI) zk_cl [(q 0, zc_ob q sb wy kd bb hi mi vi wb), (q 2, .inl (cZ, 128, .inl fd))] H → va_D A [(q 0, zc_ob q sb wy kd bb hi mi vi wb), (q 2, .inl (cZ, 128, .inl fd))] → va_S A s.heap H locs → ∀ ls : Array Slot, lv_has ls 3 [(0, .ref (q 0)), (1, .int (nI n)), (2, .int (nI k))] → W p l e rm_cc_countDirty s m args below meth c H locs 0 0 Q (F0 m 4 ls []) := by
    intro nn
    induction nn with
    | zero => intro n k hm; exact absurd hm (Nat.not_lt_zero _)
    | succ nn ih =>
      intro n k hm hk hn H locs hP hD hS ls hl
      refine lv_iload_n hx hb kd_C_countDirty_4 rfl (lv_at hl 2 rfl) ?_
      refine lv_aload_n hx hb kd_C_countDirty_5 rfl (lv_at hl 0 rfl) ?_
      refine va_get (D := (dC, dI)) (ci := 0) (v := .ref (q 2)) (C := zk_RC) (T := zk_TC) (N := 12) hx hb hts kl_C hown hK hP 0 rfl rfl 5 (by decide) (hts _ kj_147) (fun _ h9 => h9) rfl kd_C_countDirty_6 ?_
      refine va_alen (v := nI 128) hx hb hK hP 1 1 rfl rfl rfl kd_C_countDirty_9 ?_
      refine zz_icmp_ge (tgt := 31) hx hb kd_C_countDirty_10 (by decide) (by omega) (by decide) (fun c10 => ?_) (fun c10 => ?_)
      · skip
        refine lv_iload_n hx hb kd_C_countDirty_31 rfl (lv_at hl 1 rfl) ?_
        exact hret _ _ _ _ _ _ kd_C_countDirty_32 hP hD hS (⟨rfl, by rw [hn, show k = 128 by omega]⟩)
      · skip
        refine lv_aload_n hx hb kd_C_countDirty_13 rfl (lv_at hl 0 rfl) ?_
        refine va_get (D := (dC, dI)) (ci := 0) (v := .ref (q 2)) (C := zk_RC) (T := zk_TC) (N := 12) hx hb hts kl_C hown hK hP 0 rfl rfl 5 (by decide) (hts _ kj_147) (fun _ h9 => h9) rfl kd_C_countDirty_14 ?_
        refine lv_iload_n hx hb kd_C_countDirty_17 rfl (lv_at hl 2 rfl) ?_
        refine zz_zald hx hb hK hP 1 1 rfl rfl (k := k) (by omega) (by decide) kd_C_countDirty_18 ?_
        refine lv_if_eq (tgt := 25) hx hb kd_C_countDirty_19 (by decide) (fun c19 => ?_) (fun c19 => ?_)
        · skip
          refine lv_iinc (v := nI (k + 1)) (lv' := [(2, .int (nI (k + 1))), (0, .ref (q 0)), (1, .int (nI n))]) hx hb kd_C_countDirty_25 hl (k := 2) rfl (by first | exact nI_1 _ | (show _ + _ = _; exact nI_1 _)) (by decide) rfl (fun ls hl => ?_)
          refine lv_goto (tgt := 4) hx hb kd_C_countDirty_28 (by decide) ?_
          exact ih n (k + 1) (by omega) (by omega) (by first | (rw [zf_ct_t (by simp [c19]), hn]; done) | (rw [zf_ct_f (by simp [c19]), hn]; done)) _ _ hP hD hS ls (lv_sub hl [1, 2, 0] rfl)
        · skip
          refine lv_iinc (v := nI (n + 1)) (lv' := [(1, .int (nI (n + 1))), (0, .ref (q 0)), (2, .int (nI k))]) hx hb kd_C_countDirty_22 hl (k := 1) rfl (by first | exact nI_1 _ | (show _ + _ = _; exact nI_1 _)) (by decide) rfl (fun ls hl => ?_)
          refine lv_iinc (v := nI (k + 1)) (lv' := [(2, .int (nI (k + 1))), (1, .int (nI (n + 1))), (0, .ref (q 0))]) hx hb kd_C_countDirty_25 hl (k := 2) rfl (by first | exact nI_1 _ | (show _ + _ = _; exact nI_1 _)) (by decide) rfl (fun ls hl => ?_)
          refine lv_goto (tgt := 4) hx hb kd_C_countDirty_28 (by decide) ?_
          exact ih (n + 1) (k + 1) (by omega) (by omega) (by first | (rw [zf_ct_t (by simp [c19]), hn]; done) | (rw [zf_ct_f (by simp [c19]), hn]; done)) _ _ hP hD hS ls (lv_sub hl [2, 1, 0] rfl)
  exact hc4 _ 0 0 (Nat.lt_succ_self _) (by omega) (rfl) _ _ hP hD hS ls (lv_sub hl [2, 1, 0] rfl)

def rm_cc_emptyAll : Room := { frames := 0, cells := 0, slots := 0, locals := 0 }
set_option maxHeartbeats 4000000 in
set_option maxRecDepth 100000 in
/-- all of it is empty -/
theorem cc_emptyAll (l : Launch) (dC : Nat → ClassId) (dI : Nat → Nat → Nat) (cI cZ cO cL : ClassId) (q : Nat → Nat) (sb : Nat) (wy : Nat) (kd : Nat) (bb : Nat) (hi : Int32) (mi : Int32) (vi : Int32) (wb : Int32) (fb : Nat → Int32) (fd : Nat → Int32) (fs : Nat → Int32) (ft : Nat → Int32)  : zz_Mv l ky_C_emptyAll kw_C_emptyAll rm_cc_emptyAll (dC, dI) (zz_ty cI cZ cO cL) [(q 0, zc_ob q sb wy kd bb hi mi vi wb), (q 1, .inl (cI, 128, .inl fb)), (q 2, .inl (cZ, 128, .inl fd)), (q 3, .inl (cI, 128, .inl fs)), (q 4, .inl (cI, 16, .inl ft))] [.ref (q 0)] (fun (w : va_W) => ∃ (fb2 : Nat → Int32), ∃ (fd2 : Nat → Int32), ∃ (fs2 : Nat → Int32), ∃ (ft2 : Nat → Int32), w = [(q 0, zc_ob q sb wy kd bb hi mi vi wb), (q 1, .inl (cI, 128, .inl fb2)), (q 2, .inl (cZ, 128, .inl fd2)), (q 3, .inl (cI, 128, .inl fs2)), (q 4, .inl (cI, 16, .inl ft2))] ∧ (∀ j, j < 128 → fb2 j = -1) ∧ (∀ j, j < 128 → fd2 j = 0) ∧ (∀ j, j < 128 → fs2 j = 0) ∧ (∀ j, j < 16 → ft2 j = 0)) 0 0 := by
  refine zz_entry_v (cc := kb_C_emptyAll) (maxL := 2) (own := zk_RC) (by decide) rfl rfl (Nat.le_of_ble_eq_true rfl) ?_
  intro p e s m args below meth c Q hx hb hml hown hts hin hP hK A hD hA hS hret ls hl
  have hl : lv_has ls 2 [(0, .ref (q 0))] := hl
  obtain ⟨H, eH⟩ : ∃ z, z = s.heap := ⟨_, rfl⟩
  obtain ⟨locs, eL⟩ : ∃ z : List Loc, z = [] := ⟨_, rfl⟩
  rw [← eH] at hP ⊢
  have hS : va_S A s.heap H locs := by rw [eH, eL]; exact hS
  rw [← eL]
  refine lv_iconst (v := nI 0) hx hb kd_C_emptyAll_0 (by decide) ?_
  refine lv_istore_n (lv' := [(1, .int (nI 0)), (0, .ref (q 0))]) hx hb kd_C_emptyAll_1 rfl hl (by decide) rfl (fun ls hl => ?_)
  have hc2 : ∀ (nn : Nat), ∀ (k : Nat) (fb1 : Nat → Int32) (fd1 : Nat → Int32) (fs1 : Nat → Int32), 128 - k < nn → (k ≤ 128) → (∀ j, j < k → fb1 j = -1) → (∀ j, j < k → fd1 j = 0) → (∀ j, j < k → fs1 j = 0) → ∀ (H : Heap) (locs : List Loc), va_P (dC, dI) zk_cl [(q 0, zc_ob q sb wy kd bb hi mi vi wb), (q 1, .inl (cI, 128, .inl fb1)), (q 2, .inl (cZ, 128, .inl fd1)), (q 3, .inl (cI, 128, .inl fs1)), (q 4, .inl (cI, 16, .inl ft))] H → va_D A [(q 0, zc_ob q sb wy kd bb hi mi vi wb), (q 1, .inl (cI, 128, .inl fb1)), (q 2, .inl (cZ, 128, .inl fd1)), (q 3, .inl (cI, 128, .inl fs1)), (q 4, .inl (cI, 16, .inl ft))] → va_S A s.heap H locs → ∀ ls : Array Slot, lv_has ls 2 [(0, .ref (q 0)), (1, .int (nI k))] → W p l e rm_cc_emptyAll s m args below meth c H locs 0 0 Q (F0 m 2 ls []) := by
    intro nn
    induction nn with
    | zero => intro k fb1 fd1 fs1 hm; exact absurd hm (Nat.not_lt_zero _)
    | succ nn ih =>
      intro k fb1 fd1 fs1 hm hk h1 h2 h3 H locs hP hD hS ls hl
      refine lv_iload_n hx hb kd_C_emptyAll_2 rfl (lv_at hl 1 rfl) ?_
      refine lv_aload_n hx hb kd_C_emptyAll_3 rfl (lv_at hl 0 rfl) ?_
      refine va_get (D := (dC, dI)) (ci := 0) (v := .ref (q 1)) (C := zk_RC) (T := zk_TC) (N := 12) hx hb hts kl_C hown hK hP 0 rfl rfl 4 (by decide) (hts _ kj_146) (fun _ h9 => h9) rfl kd_C_emptyAll_4 ?_
      refine va_alen (v := nI 128) hx hb hK hP 1 0 rfl rfl rfl kd_C_emptyAll_7 ?_
      refine zz_icmp_ge (tgt := 38) hx hb kd_C_emptyAll_8 (by decide) (by omega) (by decide) (fun c8 => ?_) (fun c8 => ?_)
      · skip
        refine lv_iconst (v := nI 0) hx hb kd_C_emptyAll_38 (by decide) ?_
        refine lv_istore_n (lv' := [(1, .int (nI 0)), (0, .ref (q 0))]) hx hb kd_C_emptyAll_39 rfl hl (by decide) rfl (fun ls hl => ?_)
        have hc40 : ∀ (nn : Nat), ∀ (k2 : Nat) (ft1 : Nat → Int32), 16 - k2 < nn → (k2 ≤ 16) → (∀ j, j < k2 → ft1 j = 0) → ∀ (H : Heap) (locs : List Loc), va_P (dC, dI) zk_cl [(q 0, zc_ob q sb wy kd bb hi mi vi wb), (q 1, .inl (cI, 128, .inl fb1)), (q 2, .inl (cZ, 128, .inl fd1)), (q 3, .inl (cI, 128, .inl fs1)), (q 4, .inl (cI, 16, .inl ft1))] H → va_D A [(q 0, zc_ob q sb wy kd bb hi mi vi wb), (q 1, .inl (cI, 128, .inl fb1)), (q 2, .inl (cZ, 128, .inl fd1)), (q 3, .inl (cI, 128, .inl fs1)), (q 4, .inl (cI, 16, .inl ft1))] → va_S A s.heap H locs → ∀ ls : Array Slot, lv_has ls 2 [(0, .ref (q 0)), (1, .int (nI k2))] → W p l e rm_cc_emptyAll s m args below meth c H locs 0 0 Q (F0 m 40 ls []) := by
          intro nn
          induction nn with
          | zero => intro k2 ft1 hm; exact absurd hm (Nat.not_lt_zero _)
          | succ nn ih40 =>
            intro k2 ft1 hm hk2 h4 H locs hP hD hS ls hl
            refine lv_iload_n hx hb kd_C_emptyAll_40 rfl (lv_at hl 1 rfl) ?_
            refine lv_aload_n hx hb kd_C_emptyAll_41 rfl (lv_at hl 0 rfl) ?_
            refine va_get (D := (dC, dI)) (ci := 0) (v := .ref (q 4)) (C := zk_RC) (T := zk_TC) (N := 12) hx hb hts kl_C hown hK hP 0 rfl rfl 7 (by decide) (hts _ kj_149) (fun _ h9 => h9) rfl kd_C_emptyAll_42 ?_
            refine va_alen (v := nI 16) hx hb hK hP 4 0 rfl rfl rfl kd_C_emptyAll_45 ?_
            refine zz_icmp_ge (tgt := 62) hx hb kd_C_emptyAll_46 (by decide) (by omega) (by decide) (fun c46 => ?_) (fun c46 => ?_)
            · skip
              exact hret _ _ _ _ _ kd_C_emptyAll_62 hP hD hS (⟨fb1, fd1, fs1, ft1, rfl, (fun j h => h1 j (by omega)), (fun j h => h2 j (by omega)), (fun j h => h3 j (by omega)), (fun j h => h4 j (by omega))⟩)
            · skip
              refine lv_aload_n hx hb kd_C_emptyAll_49 rfl (lv_at hl 0 rfl) ?_
              refine va_get (D := (dC, dI)) (ci := 0) (v := .ref (q 4)) (C := zk_RC) (T := zk_TC) (N := 12) hx hb hts kl_C hown hK hP 0 rfl rfl 7 (by decide) (hts _ kj_149) (fun _ h9 => h9) rfl kd_C_emptyAll_50 ?_
              refine lv_iload_n hx hb kd_C_emptyAll_53 rfl (lv_at hl 1 rfl) ?_
              refine lv_iconst (v := nI 0) hx hb kd_C_emptyAll_54 (by decide) ?_
              refine zz_iast hx hb hK hP hD hS 4 0 rfl rfl (k := k2) (by omega) (by decide) kd_C_emptyAll_55 (fun H locs hP hD hS => ?_)
              have hP : va_P (dC, dI) zk_cl [(q 0, zc_ob q sb wy kd bb hi mi vi wb), (q 1, .inl (cI, 128, .inl fb1)), (q 2, .inl (cZ, 128, .inl fd1)), (q 3, .inl (cI, 128, .inl fs1)), (q 4, .inl (cI, 16, .inl (upd ft1 k2 (nI 0))))] H := hP
              have hD : va_D A [(q 0, zc_ob q sb wy kd bb hi mi vi wb), (q 1, .inl (cI, 128, .inl fb1)), (q 2, .inl (cZ, 128, .inl fd1)), (q 3, .inl (cI, 128, .inl fs1)), (q 4, .inl (cI, 16, .inl (upd ft1 k2 (nI 0))))] := hD
              refine lv_iinc (v := nI (k2 + 1)) (lv' := [(1, .int (nI (k2 + 1))), (0, .ref (q 0))]) hx hb kd_C_emptyAll_56 hl (k := 1) rfl (by first | exact nI_1 _ | (show _ + _ = _; exact nI_1 _)) (by decide) rfl (fun ls hl => ?_)
              refine lv_goto (tgt := 40) hx hb kd_C_emptyAll_59 (by decide) ?_
              exact ih40 (k2 + 1) (upd ft1 k2 (nI 0)) (by omega) (by omega) (zu_ext h4) _ _ hP hD hS ls (lv_sub hl [1, 0] rfl)
        exact hc40 _ 0 ft (Nat.lt_succ_self _) (by omega) (fun j h => by omega) _ _ hP hD hS ls (lv_sub hl [1, 0] rfl)
      · skip
        refine lv_aload_n hx hb kd_C_emptyAll_11 rfl (lv_at hl 0 rfl) ?_
        refine va_get (D := (dC, dI)) (ci := 0) (v := .ref (q 1)) (C := zk_RC) (T := zk_TC) (N := 12) hx hb hts kl_C hown hK hP 0 rfl rfl 4 (by decide) (hts _ kj_146) (fun _ h9 => h9) rfl kd_C_emptyAll_12 ?_
        refine lv_iload_n hx hb kd_C_emptyAll_15 rfl (lv_at hl 1 rfl) ?_
        refine lv_iconst (v := (-1)) hx hb kd_C_emptyAll_16 (by decide) ?_
        refine zz_iast hx hb hK hP hD hS 1 0 rfl rfl (k := k) (by omega) (by decide) kd_C_emptyAll_17 (fun H locs hP hD hS => ?_)
        have hP : va_P (dC, dI) zk_cl [(q 0, zc_ob q sb wy kd bb hi mi vi wb), (q 1, .inl (cI, 128, .inl (upd fb1 k (-1)))), (q 2, .inl (cZ, 128, .inl fd1)), (q 3, .inl (cI, 128, .inl fs1)), (q 4, .inl (cI, 16, .inl ft))] H := hP
        have hD : va_D A [(q 0, zc_ob q sb wy kd bb hi mi vi wb), (q 1, .inl (cI, 128, .inl (upd fb1 k (-1)))), (q 2, .inl (cZ, 128, .inl fd1)), (q 3, .inl (cI, 128, .inl fs1)), (q 4, .inl (cI, 16, .inl ft))] := hD
        refine lv_aload_n hx hb kd_C_emptyAll_18 rfl (lv_at hl 0 rfl) ?_
        refine va_get (D := (dC, dI)) (ci := 0) (v := .ref (q 2)) (C := zk_RC) (T := zk_TC) (N := 12) hx hb hts kl_C hown hK hP 0 rfl rfl 5 (by decide) (hts _ kj_147) (fun _ h9 => h9) rfl kd_C_emptyAll_19 ?_
        refine lv_iload_n hx hb kd_C_emptyAll_22 rfl (lv_at hl 1 rfl) ?_
        refine lv_iconst (v := nI 0) hx hb kd_C_emptyAll_23 (by decide) ?_
        refine zz_zast hx hb hK hP hD hS 2 1 rfl rfl (k := k) (by omega) (by decide) (Or.inl rfl) kd_C_emptyAll_24 (fun H locs hP hD hS => ?_)
        have hP : va_P (dC, dI) zk_cl [(q 0, zc_ob q sb wy kd bb hi mi vi wb), (q 1, .inl (cI, 128, .inl (upd fb1 k (-1)))), (q 2, .inl (cZ, 128, .inl (upd fd1 k (nI 0)))), (q 3, .inl (cI, 128, .inl fs1)), (q 4, .inl (cI, 16, .inl ft))] H := hP
        have hD : va_D A [(q 0, zc_ob q sb wy kd bb hi mi vi wb), (q 1, .inl (cI, 128, .inl (upd fb1 k (-1)))), (q 2, .inl (cZ, 128, .inl (upd fd1 k (nI 0)))), (q 3, .inl (cI, 128, .inl fs1)), (q 4, .inl (cI, 16, .inl ft))] := hD
        refine lv_aload_n hx hb kd_C_emptyAll_25 rfl (lv_at hl 0 rfl) ?_
        refine va_get (D := (dC, dI)) (ci := 0) (v := .ref (q 3)) (C := zk_RC) (T := zk_TC) (N := 12) hx hb hts kl_C hown hK hP 0 rfl rfl 6 (by decide) (hts _ kj_148) (fun _ h9 => h9) rfl kd_C_emptyAll_26 ?_
        refine lv_iload_n hx hb kd_C_emptyAll_29 rfl (lv_at hl 1 rfl) ?_
        refine lv_iconst (v := nI 0) hx hb kd_C_emptyAll_30 (by decide) ?_
        refine zz_iast hx hb hK hP hD hS 3 0 rfl rfl (k := k) (by omega) (by decide) kd_C_emptyAll_31 (fun H locs hP hD hS => ?_)
        have hP : va_P (dC, dI) zk_cl [(q 0, zc_ob q sb wy kd bb hi mi vi wb), (q 1, .inl (cI, 128, .inl (upd fb1 k (-1)))), (q 2, .inl (cZ, 128, .inl (upd fd1 k (nI 0)))), (q 3, .inl (cI, 128, .inl (upd fs1 k (nI 0)))), (q 4, .inl (cI, 16, .inl ft))] H := hP
        have hD : va_D A [(q 0, zc_ob q sb wy kd bb hi mi vi wb), (q 1, .inl (cI, 128, .inl (upd fb1 k (-1)))), (q 2, .inl (cZ, 128, .inl (upd fd1 k (nI 0)))), (q 3, .inl (cI, 128, .inl (upd fs1 k (nI 0)))), (q 4, .inl (cI, 16, .inl ft))] := hD
        refine lv_iinc (v := nI (k + 1)) (lv' := [(1, .int (nI (k + 1))), (0, .ref (q 0))]) hx hb kd_C_emptyAll_32 hl (k := 1) rfl (by first | exact nI_1 _ | (show _ + _ = _; exact nI_1 _)) (by decide) rfl (fun ls hl => ?_)
        refine lv_goto (tgt := 2) hx hb kd_C_emptyAll_35 (by decide) ?_
        exact ih (k + 1) (upd fb1 k (-1)) (upd fd1 k (nI 0)) (upd fs1 k (nI 0)) (by omega) (by omega) (zu_ext h1) (zu_ext h2) (zu_ext h3) _ _ hP hD hS ls (lv_sub hl [1, 0] rfl)
  exact hc2 _ 0 fb fd fs (Nat.lt_succ_self _) (by omega) (fun j h => by omega) (fun j h => by omega) (fun j h => by omega) _ _ hP hD hS ls (lv_sub hl [1, 0] rfl)

def rm_cc_hasPlace : Room := { frames := 1, cells := 0, slots := 0, locals := 20 }
set_option maxHeartbeats 4000000 in
set_option maxRecDepth 100000 in
/-- whether there is such a place -/
theorem cc_hasPlace (l : Launch) (dC : Nat → ClassId) (dI : Nat → Nat → Nat) (cI cZ cO cL : ClassId) (q : Nat → Nat) (sb : Nat) (wy : Nat) (kd : Nat) (bb : Nat) (hi : Int32) (mi : Int32) (vi : Int32) (wb : Int32) (x : Int32) (y : Int32) (hsb : sb ≤ 4) : zz_Mi l ky_C_hasPlace kw_C_hasPlace rm_cc_hasPlace (dC, dI) (zz_ty cI cZ cO cL) [(q 0, zc_ob q sb wy kd bb hi mi vi wb)] [.ref (q 0), .int x, .int y] (fun (r : Int32) (w : va_W) => w = [(q 0, zc_ob q sb wy kd bb hi mi vi wb)] ∧ ((r = 1 ∧ ¬ x < 0 ∧ ¬ nI (2 ^ sb) ≤ x ∧ ¬ y < 0 ∧ ¬ nI wy ≤ y) ∨ (r = 0 ∧ (x < 0 ∨ nI (2 ^ sb) ≤ x ∨ y < 0 ∨ nI wy ≤ y)))) 0 0 := by
  refine zz_entry_z (cc := kb_C_hasPlace) (maxL := 3) (own := zk_RC) (by decide) rfl rfl (Nat.le_of_ble_eq_true rfl) ?_
  intro p e s m args below meth c Q hx hb hml hown hts hin hP hK A hD hA hS hret ls hl
  have hl : lv_has ls 3 [(0, .ref (q 0)), (1, .int x), (2, .int y)] := hl
  obtain ⟨H, eH⟩ : ∃ z, z = s.heap := ⟨_, rfl⟩
  obtain ⟨locs, eL⟩ : ∃ z : List Loc, z = [] := ⟨_, rfl⟩
  rw [← eH] at hP ⊢
  have hS : va_S A s.heap H locs := by rw [eH, eL]; exact hS
  rw [← eL]
  refine lv_iload_n hx hb kd_C_hasPlace_0 rfl (lv_at hl 1 rfl) ?_
  refine lv_if_lt (tgt := 28) hx hb kd_C_hasPlace_1 (by decide) (fun c1 => ?_) (fun c1 => ?_)
  · skip
    refine lv_iconst (v := nI 0) hx hb kd_C_hasPlace_28 (by decide) ?_
    exact hret _ _ _ _ _ _ (Or.inl rfl) kd_C_hasPlace_29 hP hD hS (⟨rfl, (by first | exact Or.inl ⟨rfl, c1, c9, c13, c21⟩ | exact Or.inr ⟨rfl, Or.inr (Or.inr (Or.inr c21))⟩ | exact Or.inr ⟨rfl, Or.inr (Or.inr (Or.inl c13))⟩ | exact Or.inr ⟨rfl, Or.inr (Or.inl c9)⟩ | exact Or.inr ⟨rfl, Or.inl c1⟩)⟩)
  · skip
    refine lv_iload_n hx hb kd_C_hasPlace_4 rfl (lv_at hl 1 rfl) ?_
    refine lv_aload_n hx hb kd_C_hasPlace_5 rfl (lv_at hl 0 rfl) ?_
    refine zz_iV (As := []) (rest := [.int x]) (wc := [(q 0, zc_ob q sb wy kd bb hi mi vi wb)]) (wr := []) ⟨hx, hb, hml, hown, hts⟩ (cc_countSets l dC dI cI cZ cO cL q sb wy kd bb hi mi vi wb (by omega)) (zz_cwV hts kj_209 kj_33 kj_207 kj_208 kj_1 kz_C_countSets rfl rfl ⟨Nat.le_of_ble_eq_true rfl, Nat.le_of_ble_eq_true rfl⟩) hP hD hK hS hA (q0 := 0) rfl rfl rfl rfl hl.1 rfl (Nat.le_of_ble_eq_true rfl) kd_C_hasPlace_6 ⟨by decide, by decide⟩ (fun r9 w9 H locs hw hP hD hS => ?_)
    obtain ⟨rfl, rfl⟩ := hw
    have hP : va_P (dC, dI) zk_cl [(q 0, zc_ob q sb wy kd bb hi mi vi wb)] H := hP
    have hD : va_D A [(q 0, zc_ob q sb wy kd bb hi mi vi wb)] := hD
    refine lv_icmp_ge (tgt := 28) hx hb kd_C_hasPlace_9 (by decide) (fun c9 => ?_) (fun c9 => ?_)
    · skip
      refine lv_iconst (v := nI 0) hx hb kd_C_hasPlace_28 (by decide) ?_
      exact hret _ _ _ _ _ _ (Or.inl rfl) kd_C_hasPlace_29 hP hD hS (⟨rfl, (by first | exact Or.inl ⟨rfl, c1, c9, c13, c21⟩ | exact Or.inr ⟨rfl, Or.inr (Or.inr (Or.inr c21))⟩ | exact Or.inr ⟨rfl, Or.inr (Or.inr (Or.inl c13))⟩ | exact Or.inr ⟨rfl, Or.inr (Or.inl c9)⟩ | exact Or.inr ⟨rfl, Or.inl c1⟩)⟩)
    · skip
      refine lv_iload_n hx hb kd_C_hasPlace_12 rfl (lv_at hl 2 rfl) ?_
      refine lv_if_lt (tgt := 28) hx hb kd_C_hasPlace_13 (by decide) (fun c13 => ?_) (fun c13 => ?_)
      · skip
        refine lv_iconst (v := nI 0) hx hb kd_C_hasPlace_28 (by decide) ?_
        exact hret _ _ _ _ _ _ (Or.inl rfl) kd_C_hasPlace_29 hP hD hS (⟨rfl, (by first | exact Or.inl ⟨rfl, c1, c9, c13, c21⟩ | exact Or.inr ⟨rfl, Or.inr (Or.inr (Or.inr c21))⟩ | exact Or.inr ⟨rfl, Or.inr (Or.inr (Or.inl c13))⟩ | exact Or.inr ⟨rfl, Or.inr (Or.inl c9)⟩ | exact Or.inr ⟨rfl, Or.inl c1⟩)⟩)
      · skip
        refine lv_iload_n hx hb kd_C_hasPlace_16 rfl (lv_at hl 2 rfl) ?_
        refine lv_aload_n hx hb kd_C_hasPlace_17 rfl (lv_at hl 0 rfl) ?_
        refine va_get (D := (dC, dI)) (ci := 0) (v := .int (nI wy)) (C := zk_RC) (T := zk_TC) (N := 12) hx hb hts kl_C hown hK hP 0 rfl rfl 1 (by decide) (hts _ kj_143) (fun _ h9 => h9) rfl kd_C_hasPlace_18 ?_
        refine lv_icmp_ge (tgt := 28) hx hb kd_C_hasPlace_21 (by decide) (fun c21 => ?_) (fun c21 => ?_)
        · skip
          refine lv_iconst (v := nI 0) hx hb kd_C_hasPlace_28 (by decide) ?_
          exact hret _ _ _ _ _ _ (Or.inl rfl) kd_C_hasPlace_29 hP hD hS (⟨rfl, (by first | exact Or.inl ⟨rfl, c1, c9, c13, c21⟩ | exact Or.inr ⟨rfl, Or.inr (Or.inr (Or.inr c21))⟩ | exact Or.inr ⟨rfl, Or.inr (Or.inr (Or.inl c13))⟩ | exact Or.inr ⟨rfl, Or.inr (Or.inl c9)⟩ | exact Or.inr ⟨rfl, Or.inl c1⟩)⟩)
        · skip
          refine lv_iconst (v := nI 1) hx hb kd_C_hasPlace_24 (by decide) ?_
          refine lv_goto (tgt := 29) hx hb kd_C_hasPlace_25 (by decide) ?_
          exact hret _ _ _ _ _ _ (Or.inr rfl) kd_C_hasPlace_29 hP hD hS (⟨rfl, (by first | exact Or.inl ⟨rfl, c1, c9, c13, c21⟩ | exact Or.inr ⟨rfl, Or.inr (Or.inr (Or.inr c21))⟩ | exact Or.inr ⟨rfl, Or.inr (Or.inr (Or.inl c13))⟩ | exact Or.inr ⟨rfl, Or.inr (Or.inl c9)⟩ | exact Or.inr ⟨rfl, Or.inl c1⟩)⟩)

def rm_cc_oldestPlace : Room := { frames := 1, cells := 0, slots := 0, locals := 22 }
set_option maxHeartbeats 4000000 in
set_option maxRecDepth 100000 in
/-- the first place with the least stamp -/
theorem cc_oldestPlace (l : Launch) (dC : Nat → ClassId) (dI : Nat → Nat → Nat) (cI cZ cO cL : ClassId) (q : Nat → Nat) (sb : Nat) (wy : Nat) (kd : Nat) (bb : Nat) (hi : Int32) (mi : Int32) (vi : Int32) (wb : Int32) (fs : Nat → Int32) (a : Nat) (hwy : 1 ≤ wy ∧ wy ≤ 8) (hi0 : a * wy + wy ≤ 128) : zz_Mi l ky_C_oldestPlace kw_C_oldestPlace rm_cc_oldestPlace (dC, dI) (zz_ty cI cZ cO cL) [(q 0, zc_ob q sb wy kd bb hi mi vi wb), (q 3, .inl (cI, 128, .inl fs))] [.ref (q 0), .int (nI a)] (fun (r : Int32) (w : va_W) => ∃ (o : Nat), w = [(q 0, zc_ob q sb wy kd bb hi mi vi wb), (q 3, .inl (cI, 128, .inl fs))] ∧ (r = nI o) ∧ (zf_AM (fun j => fs (a * wy + j)) wy o)) 0 0 := by
  refine zz_entry_i (cc := kb_C_oldestPlace) (maxL := 4) (own := zk_RC) (by decide) rfl rfl (Nat.le_of_ble_eq_true rfl) ?_
  intro p e s m args below meth c Q hx hb hml hown hts hin hP hK A hD hA hS hret ls hl
  have hl : lv_has ls 4 [(0, .ref (q 0)), (1, .int (nI a))] := hl
  obtain ⟨H, eH⟩ : ∃ z, z = s.heap := ⟨_, rfl⟩
  obtain ⟨locs, eL⟩ : ∃ z : List Loc, z = [] := ⟨_, rfl⟩
  rw [← eH] at hP ⊢
  have hS : va_S A s.heap H locs := by rw [eH, eL]; exact hS
  rw [← eL]
  refine lv_iconst (v := nI 0) hx hb kd_C_oldestPlace_0 (by decide) ?_
  refine lv_istore_n (lv' := [(2, .int (nI 0)), (0, .ref (q 0)), (1, .int (nI a))]) hx hb kd_C_oldestPlace_1 rfl hl (by decide) rfl (fun ls hl => ?_)
  refine lv_iconst (v := nI 1) hx hb kd_C_oldestPlace_2 (by decide) ?_
  refine lv_istore_n (lv' := [(3, .int (nI 1)), (2, .int (nI 0)), (0, .ref (q 0)), (1, .int (nI a))]) hx hb kd_C_oldestPlace_3 rfl hl (by decide) rfl (fun ls hl => ?_)
  have hc4 : ∀ (nn : Nat), ∀ (o : Nat) (k : Nat), wy - k < nn → (1 ≤ k ∧ k ≤ wy) → (zf_AM (fun j => fs (a * wy + j)) k o) → ∀ (H : Heap) (locs : List Loc), va_P (dC, dI) zk_cl [(q 0, zc_ob q sb wy kd bb hi mi vi wb), (q 3, .inl (cI, 128, .inl fs))] H → va_D A [(q 0, zc_ob q sb wy kd bb hi mi vi wb), (q 3, .inl (cI, 128, .inl fs))] → va_S A s.heap H locs → ∀ ls : Array Slot, lv_has ls 4 [(0, .ref (q 0)), (1, .int (nI a)), (2, .int (nI o)), (3, .int (nI k))] → W p l e rm_cc_oldestPlace s m args below meth c H locs 0 0 Q (F0 m 4 ls []) := by
    intro nn
    induction nn with
    | zero => intro o k hm; exact absurd hm (Nat.not_lt_zero _)
    | succ nn ih =>
      intro o k hm hk ham H locs hP hD hS ls hl
      have ho := ham.1
      refine lv_iload_n hx hb kd_C_oldestPlace_4 rfl (lv_at hl 3 rfl) ?_
      refine lv_aload_n hx hb kd_C_oldestPlace_5 rfl (lv_at hl 0 rfl) ?_
      refine va_get (D := (dC, dI)) (ci := 0) (v := .int (nI wy)) (C := zk_RC) (T := zk_TC) (N := 12) hx hb hts kl_C hown hK hP 0 rfl rfl 1 (by decide) (hts _ kj_143) (fun _ h9 => h9) rfl kd_C_oldestPlace_6 ?_
      refine zz_icmp_ge (tgt := 45) hx hb kd_C_oldestPlace_9 (by decide) (by omega) (by omega) (fun c9 => ?_) (fun c9 => ?_)
      · skip
        refine lv_iload_n hx hb kd_C_oldestPlace_45 rfl (lv_at hl 2 rfl) ?_
        exact hret _ _ _ _ _ _ kd_C_oldestPlace_46 hP hD hS (⟨o, rfl, rfl, ((show k = wy by omega) ▸ ham)⟩)
      · skip
        refine lv_aload_n hx hb kd_C_oldestPlace_12 rfl (lv_at hl 0 rfl) ?_
        refine va_get (D := (dC, dI)) (ci := 0) (v := .ref (q 3)) (C := zk_RC) (T := zk_TC) (N := 12) hx hb hts kl_C hown hK hP 0 rfl rfl 6 (by decide) (hts _ kj_148) (fun _ h9 => h9) rfl kd_C_oldestPlace_13 ?_
        refine lv_aload_n hx hb kd_C_oldestPlace_16 rfl (lv_at hl 0 rfl) ?_
        refine lv_iload_n hx hb kd_C_oldestPlace_17 rfl (lv_at hl 1 rfl) ?_
        refine lv_iload_n hx hb kd_C_oldestPlace_18 rfl (lv_at hl 3 rfl) ?_
        refine zz_iV (As := [.int (nI a), .int (nI k)]) (rest := [.ref (q 3)]) (wc := [(q 0, zc_ob q sb wy kd bb hi mi vi wb)]) (wr := [(q 3, .inl (cI, 128, .inl fs))]) ⟨hx, hb, hml, hown, hts⟩ (cc_slotOf l dC dI cI cZ cO cL q sb wy kd bb hi mi vi wb a k ) (zz_cwV hts kj_219 kj_33 kj_217 kj_218 kj_3 kz_C_slotOf rfl rfl ⟨Nat.le_of_ble_eq_true rfl, Nat.le_of_ble_eq_true rfl⟩) (hP.sub [1, 0] rfl) (hD.sub [1, 0] (by decide) rfl) hK hS hA (q0 := 0) rfl rfl rfl rfl hl.1 rfl (Nat.le_of_ble_eq_true rfl) kd_C_oldestPlace_19 ⟨by decide, by decide⟩ (fun r9 w9 H locs hw hP hD hS => ?_)
        obtain ⟨rfl, rfl⟩ := hw
        have hP : va_P (dC, dI) zk_cl [(q 3, .inl (cI, 128, .inl fs)), (q 0, zc_ob q sb wy kd bb hi mi vi wb)] H := hP
        have hD : va_D A [(q 3, .inl (cI, 128, .inl fs)), (q 0, zc_ob q sb wy kd bb hi mi vi wb)] := hD
        refine zz_iald hx hb hK hP 0 0 rfl rfl (k := a * wy + k) (by omega) (by decide) kd_C_oldestPlace_22 ?_
        refine lv_aload_n hx hb kd_C_oldestPlace_23 rfl (lv_at hl 0 rfl) ?_
        refine va_get (D := (dC, dI)) (ci := 0) (v := .ref (q 3)) (C := zk_RC) (T := zk_TC) (N := 12) hx hb hts kl_C hown hK hP 1 rfl rfl 6 (by decide) (hts _ kj_148) (fun _ h9 => h9) rfl kd_C_oldestPlace_24 ?_
        refine lv_aload_n hx hb kd_C_oldestPlace_27 rfl (lv_at hl 0 rfl) ?_
        refine lv_iload_n hx hb kd_C_oldestPlace_28 rfl (lv_at hl 1 rfl) ?_
        refine lv_iload_n hx hb kd_C_oldestPlace_29 rfl (lv_at hl 2 rfl) ?_
        refine zz_iV (As := [.int (nI a), .int (nI o)]) (rest := [.ref (q 3), .int (fs (a * wy + k))]) (wc := [(q 0, zc_ob q sb wy kd bb hi mi vi wb)]) (wr := [(q 3, .inl (cI, 128, .inl fs))]) ⟨hx, hb, hml, hown, hts⟩ (cc_slotOf l dC dI cI cZ cO cL q sb wy kd bb hi mi vi wb a o ) (zz_cwV hts kj_219 kj_33 kj_217 kj_218 kj_3 kz_C_slotOf rfl rfl ⟨Nat.le_of_ble_eq_true rfl, Nat.le_of_ble_eq_true rfl⟩) hP hD hK hS hA (q0 := 0) rfl rfl rfl rfl hl.1 rfl (Nat.le_of_ble_eq_true rfl) kd_C_oldestPlace_30 ⟨by decide, by decide⟩ (fun r9 w9 H locs hw hP hD hS => ?_)
        obtain ⟨rfl, rfl⟩ := hw
        have hP : va_P (dC, dI) zk_cl [(q 3, .inl (cI, 128, .inl fs)), (q 0, zc_ob q sb wy kd bb hi mi vi wb)] H := hP
        have hD : va_D A [(q 3, .inl (cI, 128, .inl fs)), (q 0, zc_ob q sb wy kd bb hi mi vi wb)] := hD
        refine zz_iald hx hb hK hP 0 0 rfl rfl (k := a * wy + o) (by omega) (by decide) kd_C_oldestPlace_33 ?_
        refine lv_icmp_ge (tgt := 39) hx hb kd_C_oldestPlace_34 (by decide) (fun c34 => ?_) (fun c34 => ?_)
        · skip
          refine lv_iinc (v := nI (k + 1)) (lv' := [(3, .int (nI (k + 1))), (0, .ref (q 0)), (1, .int (nI a)), (2, .int (nI o))]) hx hb kd_C_oldestPlace_39 hl (k := 3) rfl (by first | exact nI_1 _ | (show _ + _ = _; exact nI_1 _)) (by decide) rfl (fun ls hl => ?_)
          refine lv_goto (tgt := 4) hx hb kd_C_oldestPlace_42 (by decide) ?_
          exact ih o (k + 1) (by omega) (by omega) (by first | exact zf_AM_t ham (zu_nle c34) | exact zf_AM_f ham (zu_nlt c34)) _ _ (hP.sub [1, 0] rfl) (hD.sub [1, 0] (by decide) rfl) hS ls (lv_sub hl [1, 2, 3, 0] rfl)
        · skip
          refine lv_iload_n hx hb kd_C_oldestPlace_37 rfl (lv_at hl 3 rfl) ?_
          refine lv_istore_n (lv' := [(2, .int (nI k)), (0, .ref (q 0)), (1, .int (nI a)), (3, .int (nI k))]) hx hb kd_C_oldestPlace_38 rfl hl (by decide) rfl (fun ls hl => ?_)
          refine lv_iinc (v := nI (k + 1)) (lv' := [(3, .int (nI (k + 1))), (2, .int (nI k)), (0, .ref (q 0)), (1, .int (nI a))]) hx hb kd_C_oldestPlace_39 hl (k := 3) rfl (by first | exact nI_1 _ | (show _ + _ = _; exact nI_1 _)) (by decide) rfl (fun ls hl => ?_)
          refine lv_goto (tgt := 4) hx hb kd_C_oldestPlace_42 (by decide) ?_
          exact ih k (k + 1) (by omega) (by omega) (by first | exact zf_AM_t ham (zu_nle c34) | exact zf_AM_f ham (zu_nlt c34)) _ _ (hP.sub [1, 0] rfl) (hD.sub [1, 0] (by decide) rfl) hS ls (lv_sub hl [2, 3, 1, 0] rfl)
  exact hc4 _ 0 1 (Nat.lt_succ_self _) (by omega) (zf_AM_1) _ _ hP hD hS ls (lv_sub hl [2, 3, 1, 0] rfl)
