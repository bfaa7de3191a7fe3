def rm_cc_pointedPlace : Room := { frames := 0, cells := 0, slots := 0, locals := 0 }
set_option maxHeartbeats 4000000 in
set_option maxRecDepth 100000 in
/-- the place to which the tree points -/
theorem cc_pointedPlace (l : Launch) (dC : Nat → ClassId) (dI : Nat → Nat → Nat) (cI cZ cO cL : ClassId) (q : Nat → Nat) (sb : Nat) (wy : Nat) (kd : Nat) (bb : Nat) (hi : Int32) (mi : Int32) (vi : Int32) (wb : Int32) (ft : Nat → Int32) (a : Nat) (t : Nat) (hwy : wy = 1 ∨ wy = 2 ∨ wy = 4 ∨ wy = 8) (ha : a < 16) (hft : ft a = nI t) (ht : t < 256) : zz_Mi l ky_C_pointedPlace kw_C_pointedPlace rm_cc_pointedPlace (dC, dI) (zz_ty cI cZ cO cL) [(q 0, zc_ob q sb wy kd bb hi mi vi wb), (q 4, .inl (cI, 16, .inl ft))] [.ref (q 0), .int (nI a)] (fun (r : Int32) (w : va_W) => w = [(q 0, zc_ob q sb wy kd bb hi mi vi wb), (q 4, .inl (cI, 16, .inl ft))] ∧ (r = nI (zt_pt (zt_b t) 4 (wy / 2) 1 0))) 0 0 := by
  refine zz_entry_i (cc := kb_C_pointedPlace) (maxL := 7) (own := zk_RC) (by decide) rfl rfl (Nat.le_of_ble_eq_true rfl) ?_
  intro p e s m args below meth c Q hx hb hml hown hts hin hP hK A hD hA hS hret ls hl
  have hl : lv_has ls 7 [(0, .ref (q 0)), (1, .int (nI a))] := hl
  obtain ⟨H, eH⟩ : ∃ z, z = s.heap := ⟨_, rfl⟩
  obtain ⟨locs, eL⟩ : ∃ z : List Loc, z = [] := ⟨_, rfl⟩
  rw [← eH] at hP ⊢
  have hS : va_S A s.heap H locs := by rw [eH, eL]; exact hS
  rw [← eL]
  refine lv_aload_n hx hb kd_C_pointedPlace_0 rfl (lv_at hl 0 rfl) ?_
  refine va_get (D := (dC, dI)) (ci := 0) (v := .ref (q 4)) (C := zk_RC) (T := zk_TC) (N := 12) hx hb hts kl_C hown hK hP 0 rfl rfl 7 (by decide) (hts _ kj_149) (fun _ h9 => h9) rfl kd_C_pointedPlace_1 ?_
  refine lv_iload_n hx hb kd_C_pointedPlace_4 rfl (lv_at hl 1 rfl) ?_
  refine zz_iald hx hb hK hP 1 0 rfl rfl (k := a) (by omega) (by decide) kd_C_pointedPlace_5 ?_
  refine zz_top (y := nI t) (hft) ?_
  refine lv_istore_n (lv' := [(2, .int (nI t)), (0, .ref (q 0)), (1, .int (nI a))]) hx hb kd_C_pointedPlace_6 rfl hl (by decide) rfl (fun ls hl => ?_)
  refine lv_iconst (v := nI 1) hx hb kd_C_pointedPlace_7 (by decide) ?_
  refine lv_istore_n (lv' := [(3, .int (nI 1)), (2, .int (nI t)), (0, .ref (q 0)), (1, .int (nI a))]) hx hb kd_C_pointedPlace_8 rfl hl (by decide) rfl (fun ls hl => ?_)
  refine lv_iconst (v := nI 0) hx hb kd_C_pointedPlace_9 (by decide) ?_
  refine lv_istore (lv' := [(4, .int (nI 0)), (3, .int (nI 1)), (2, .int (nI t)), (0, .ref (q 0)), (1, .int (nI a))]) hx hb kd_C_pointedPlace_10 hl (by decide) rfl (fun ls hl => ?_)
  refine lv_aload_n hx hb kd_C_pointedPlace_12 rfl (lv_at hl 3 rfl) ?_
  refine va_get (D := (dC, dI)) (ci := 0) (v := .int (nI wy)) (C := zk_RC) (T := zk_TC) (N := 12) hx hb hts kl_C hown hK hP 0 rfl rfl 1 (by decide) (hts _ kj_143) (fun _ h9 => h9) rfl kd_C_pointedPlace_13 ?_
  refine lv_iconst (v := nI 1) hx hb kd_C_pointedPlace_16 (by decide) ?_
  refine lv_ishr hx hb kd_C_pointedPlace_17 ?_
  refine zz_top (y := nI (wy / 2)) (zn_half (by omega)) ?_
  refine lv_istore (lv' := [(5, .int (nI (wy / 2))), (4, .int (nI 0)), (3, .int (nI 1)), (2, .int (nI t)), (0, .ref (q 0)), (1, .int (nI a))]) hx hb kd_C_pointedPlace_18 hl (by decide) rfl (fun ls hl => ?_)
  have hc20 : ∀ (nn : Nat), ∀ (half : Nat) (node : Nat) (pl : Nat) (fl : Nat), half < nn → (zt_pt (zt_b t) 4 (wy / 2) 1 0 = zt_pt (zt_b t) fl half node pl) → (half < 2 ^ fl) → (zt_ok half node) → ∀ (H : Heap) (locs : List Loc), va_P (dC, dI) zk_cl [(q 0, zc_ob q sb wy kd bb hi mi vi wb), (q 4, .inl (cI, 16, .inl ft))] H → va_D A [(q 0, zc_ob q sb wy kd bb hi mi vi wb), (q 4, .inl (cI, 16, .inl ft))] → va_S A s.heap H locs → ∀ ls : Array Slot, lv_has ls 7 [(0, .ref (q 0)), (2, .int (nI t)), (3, .int (nI node)), (4, .int (nI pl)), (5, .int (nI half))] → W p l e rm_cc_pointedPlace s m args below meth c H locs 0 0 Q (F0 m 20 ls []) := by
    intro nn
    induction nn with
    | zero => intro half node pl fl hm; exact absurd hm (Nat.not_lt_zero _)
    | succ nn ih =>
      intro half node pl fl hm heq hf hok H locs hP hD hS ls hl
      have hl4 := zt_ok_l hok
      refine lv_iload hx hb kd_C_pointedPlace_20 (lv_at hl 4 rfl) ?_
      refine zz_if_le (tgt := 58) hx hb kd_C_pointedPlace_22 (by decide) (by omega) (fun c22 => ?_) (fun c22 => ?_)
      · skip
        refine lv_iload hx hb kd_C_pointedPlace_58 (lv_at hl 3 rfl) ?_
        exact hret _ _ _ _ _ _ kd_C_pointedPlace_60 hP hD hS (⟨rfl, by rw [heq, c22, zt_pt_0]⟩)
      · skip
        refine lv_iload_n hx hb kd_C_pointedPlace_25 rfl (lv_at hl 1 rfl) ?_
        refine lv_iload_n hx hb kd_C_pointedPlace_26 rfl (lv_at hl 2 rfl) ?_
        refine lv_ishr hx hb kd_C_pointedPlace_27 ?_
        refine zz_top (y := nI (t / 2 ^ node)) (zn_shr (by omega) (by have := zt_ok_8 hok c22; omega)) ?_
        refine lv_iconst (v := nI 1) hx hb kd_C_pointedPlace_28 (by decide) ?_
        refine lv_iand hx hb kd_C_pointedPlace_29 ?_
        refine zz_top (y := nI (t / 2 ^ node % 2)) (zn_bit ht) ?_
        refine lv_istore (lv' := [(6, .int (nI (t / 2 ^ node % 2))), (0, .ref (q 0)), (2, .int (nI t)), (3, .int (nI node)), (4, .int (nI pl)), (5, .int (nI half))]) hx hb kd_C_pointedPlace_30 hl (by decide) rfl (fun ls hl => ?_)
        refine lv_iload hx hb kd_C_pointedPlace_32 (lv_at hl 4 rfl) ?_
        refine lv_iload hx hb kd_C_pointedPlace_34 (lv_at hl 0 rfl) ?_
        refine lv_iload hx hb kd_C_pointedPlace_36 (lv_at hl 5 rfl) ?_
        refine lv_imul hx hb kd_C_pointedPlace_38 ?_
        refine zz_top (y := nI ((t / 2 ^ node % 2) * half)) (pk_mul _ _) ?_
        refine lv_iadd hx hb kd_C_pointedPlace_39 ?_
        refine zz_top (y := nI (pl + ((t / 2 ^ node % 2) * half))) (nI_add _ _) ?_
        refine lv_istore (lv' := [(4, .int (nI (pl + ((t / 2 ^ node % 2) * half)))), (6, .int (nI (t / 2 ^ node % 2))), (0, .ref (q 0)), (2, .int (nI t)), (3, .int (nI node)), (5, .int (nI half))]) hx hb kd_C_pointedPlace_40 hl (by decide) rfl (fun ls hl => ?_)
        refine lv_iconst (v := nI 2) hx hb kd_C_pointedPlace_42 (by decide) ?_
        refine lv_iload_n hx hb kd_C_pointedPlace_43 rfl (lv_at hl 4 rfl) ?_
        refine lv_imul hx hb kd_C_pointedPlace_44 ?_
        refine zz_top (y := nI (2 * node)) (pk_mul _ _) ?_
        refine lv_iload hx hb kd_C_pointedPlace_45 (lv_at hl 1 rfl) ?_
        refine lv_iadd hx hb kd_C_pointedPlace_47 ?_
        refine zz_top (y := nI (2 * node + (t / 2 ^ node % 2))) (nI_add _ _) ?_
        refine lv_istore_n (lv' := [(3, .int (nI (2 * node + (t / 2 ^ node % 2)))), (4, .int (nI (pl + ((t / 2 ^ node % 2) * half)))), (6, .int (nI (t / 2 ^ node % 2))), (0, .ref (q 0)), (2, .int (nI t)), (5, .int (nI half))]) hx hb kd_C_pointedPlace_48 rfl hl (by decide) rfl (fun ls hl => ?_)
        refine lv_iload hx hb kd_C_pointedPlace_49 (lv_at hl 5 rfl) ?_
        refine lv_iconst (v := nI 1) hx hb kd_C_pointedPlace_51 (by decide) ?_
        refine lv_ishr hx hb kd_C_pointedPlace_52 ?_
        refine zz_top (y := nI (half / 2)) (zn_half (by omega)) ?_
        refine lv_istore (lv' := [(5, .int (nI (half / 2))), (3, .int (nI (2 * node + (t / 2 ^ node % 2)))), (4, .int (nI (pl + ((t / 2 ^ node % 2) * half)))), (6, .int (nI (t / 2 ^ node % 2))), (0, .ref (q 0)), (2, .int (nI t))]) hx hb kd_C_pointedPlace_53 hl (by decide) rfl (fun ls hl => ?_)
        refine lv_goto (tgt := 20) hx hb kd_C_pointedPlace_55 (by decide) ?_
        exact ih (half / 2) (2 * node + (t / 2 ^ node % 2)) (pl + ((t / 2 ^ node % 2) * half)) (fl - 1) (by omega) (by rw [heq]; exact zt_pt_s c22 hf) (zt_hf c22 hf) (zt_ok_n hok c22 (by omega)) _ _ hP hD hS ls (lv_sub hl [4, 5, 1, 2, 0] rfl)
  exact hc20 _ (wy / 2) 1 0 4 (Nat.lt_succ_self _) (rfl) (by omega) (by unfold zt_ok; omega) _ _ hP hD hS ls (lv_sub hl [4, 3, 2, 1, 0] rfl)

def rm_cc_pointAway : Room := { frames := 0, cells := 0, slots := 0, locals := 0 }
set_option maxHeartbeats 4000000 in
set_option maxRecDepth 100000 in
/-- the tree points away from the place -/
theorem cc_pointAway (l : Launch) (dC : Nat → ClassId) (dI : Nat → Nat → Nat) (cI cZ cO cL : ClassId) (q : Nat → Nat) (sb : Nat) (wy : Nat) (kd : Nat) (bb : Nat) (hi : Int32) (mi : Int32) (vi : Int32) (wb : Int32) (ft : Nat → Int32) (a : Nat) (pl : Nat) (t : Nat) (hwy : wy = 1 ∨ wy = 2 ∨ wy = 4 ∨ wy = 8) (ha : a < 16) (hpl : pl < 8) (hft : ft a = nI t) (ht : t < 256) : zz_Mv l ky_C_pointAway kw_C_pointAway rm_cc_pointAway (dC, dI) (zz_ty cI cZ cO cL) [(q 0, zc_ob q sb wy kd bb hi mi vi wb), (q 4, .inl (cI, 16, .inl ft))] [.ref (q 0), .int (nI a), .int (nI pl)] (fun (w : va_W) => ∃ (t2 : Nat), w = [(q 0, zc_ob q sb wy kd bb hi mi vi wb), (q 4, .inl (cI, 16, .inl (upd ft a (nI t2))))] ∧ (t2 < 256) ∧ (zt_b t2 = zt_pa pl 4 (wy / 2) 1 (zt_b t))) 0 0 := by
  refine zz_entry_v (cc := kb_C_pointAway) (maxL := 6) (own := zk_RC) (by decide) rfl rfl (Nat.le_of_ble_eq_true rfl) ?_
  intro p e s m args below meth c Q hx hb hml hown hts hin hP hK A hD hA hS hret ls hl
  have hl : lv_has ls 6 [(0, .ref (q 0)), (1, .int (nI a)), (2, .int (nI pl))] := hl
  obtain ⟨H, eH⟩ : ∃ z, z = s.heap := ⟨_, rfl⟩
  obtain ⟨locs, eL⟩ : ∃ z : List Loc, z = [] := ⟨_, rfl⟩
  rw [← eH] at hP ⊢
  have hS : va_S A s.heap H locs := by rw [eH, eL]; exact hS
  rw [← eL]
  refine lv_aload_n hx hb kd_C_pointAway_0 rfl (lv_at hl 0 rfl) ?_
  refine va_get (D := (dC, dI)) (ci := 0) (v := .ref (q 4)) (C := zk_RC) (T := zk_TC) (N := 12) hx hb hts kl_C hown hK hP 0 rfl rfl 7 (by decide) (hts _ kj_149) (fun _ h9 => h9) rfl kd_C_pointAway_1 ?_
  refine lv_iload_n hx hb kd_C_pointAway_4 rfl (lv_at hl 1 rfl) ?_
  refine zz_iald hx hb hK hP 1 0 rfl rfl (k := a) (by omega) (by decide) kd_C_pointAway_5 ?_
  refine zz_top (y := nI t) (hft) ?_
  refine lv_istore_n (lv' := [(3, .int (nI t)), (0, .ref (q 0)), (1, .int (nI a)), (2, .int (nI pl))]) hx hb kd_C_pointAway_6 rfl hl (by decide) rfl (fun ls hl => ?_)
  refine lv_iconst (v := nI 1) hx hb kd_C_pointAway_7 (by decide) ?_
  refine lv_istore (lv' := [(4, .int (nI 1)), (3, .int (nI t)), (0, .ref (q 0)), (1, .int (nI a)), (2, .int (nI pl))]) hx hb kd_C_pointAway_8 hl (by decide) rfl (fun ls hl => ?_)
  refine lv_aload_n hx hb kd_C_pointAway_10 rfl (lv_at hl 2 rfl) ?_
  refine va_get (D := (dC, dI)) (ci := 0) (v := .int (nI wy)) (C := zk_RC) (T := zk_TC) (N := 12) hx hb hts kl_C hown hK hP 0 rfl rfl 1 (by decide) (hts _ kj_143) (fun _ h9 => h9) rfl kd_C_pointAway_11 ?_
  refine lv_iconst (v := nI 1) hx hb kd_C_pointAway_14 (by decide) ?_
  refine lv_ishr hx hb kd_C_pointAway_15 ?_
  refine zz_top (y := nI (wy / 2)) (zn_half (by omega)) ?_
  refine lv_istore (lv' := [(5, .int (nI (wy / 2))), (4, .int (nI 1)), (3, .int (nI t)), (0, .ref (q 0)), (1, .int (nI a)), (2, .int (nI pl))]) hx hb kd_C_pointAway_16 hl (by decide) rfl (fun ls hl => ?_)
  have hc18 : ∀ (nn : Nat), ∀ (half : Nat) (node : Nat) (t1 : Nat) (fl : Nat), half < nn → (zt_pa pl 4 (wy / 2) 1 (zt_b t) = zt_pa pl fl half node (zt_b t1)) → (half < 2 ^ fl) → (zt_ok half node) → (t1 < 256) → (half ≠ 3) → ∀ (H : Heap) (locs : List Loc), va_P (dC, dI) zk_cl [(q 0, zc_ob q sb wy kd bb hi mi vi wb), (q 4, .inl (cI, 16, .inl ft))] H → va_D A [(q 0, zc_ob q sb wy kd bb hi mi vi wb), (q 4, .inl (cI, 16, .inl ft))] → va_S A s.heap H locs → ∀ ls : Array Slot, lv_has ls 6 [(0, .ref (q 0)), (1, .int (nI a)), (2, .int (nI pl)), (3, .int (nI t1)), (4, .int (nI node)), (5, .int (nI half))] → W p l e rm_cc_pointAway s m args below meth c H locs 0 0 Q (F0 m 18 ls []) := by
    intro nn
    induction nn with
    | zero => intro half node t1 fl hm; exact absurd hm (Nat.not_lt_zero _)
    | succ nn ih =>
      intro half node t1 fl hm heq hf hok ht1 h3 H locs hP hD hS ls hl
      have hl4 := zt_ok_l hok
      refine lv_iload hx hb kd_C_pointAway_18 (lv_at hl 5 rfl) ?_
      refine zz_if_le (tgt := 72) hx hb kd_C_pointAway_20 (by decide) (by omega) (fun c20 => ?_) (fun c20 => ?_)
      · skip
        refine lv_aload_n hx hb kd_C_pointAway_72 rfl (lv_at hl 0 rfl) ?_
        refine va_get (D := (dC, dI)) (ci := 0) (v := .ref (q 4)) (C := zk_RC) (T := zk_TC) (N := 12) hx hb hts kl_C hown hK hP 0 rfl rfl 7 (by decide) (hts _ kj_149) (fun _ h9 => h9) rfl kd_C_pointAway_73 ?_
        refine lv_iload_n hx hb kd_C_pointAway_76 rfl (lv_at hl 1 rfl) ?_
        refine lv_iload_n hx hb kd_C_pointAway_77 rfl (lv_at hl 3 rfl) ?_
        refine zz_iast hx hb hK hP hD hS 1 0 rfl rfl (k := a) (by omega) (by decide) kd_C_pointAway_78 (fun H locs hP hD hS => ?_)
        have hP : va_P (dC, dI) zk_cl [(q 0, zc_ob q sb wy kd bb hi mi vi wb), (q 4, .inl (cI, 16, .inl (upd ft a (nI t1))))] H := hP
        have hD : va_D A [(q 0, zc_ob q sb wy kd bb hi mi vi wb), (q 4, .inl (cI, 16, .inl (upd ft a (nI t1))))] := hD
        exact hret _ _ _ _ _ kd_C_pointAway_79 hP hD hS (⟨t1, rfl, (ht1), (by rw [heq, c20, zt_pa_0])⟩)
      · skip
        refine lv_iload_n hx hb kd_C_pointAway_23 rfl (lv_at hl 2 rfl) ?_
        refine lv_iload hx hb kd_C_pointAway_24 (lv_at hl 5 rfl) ?_
        refine lv_iand hx hb kd_C_pointAway_26 ?_
        refine zz_top (y := nI (if pl / half % 2 = 1 then half else 0)) (zt_and hpl (by omega)) ?_
        refine zz_if_eq (tgt := 50) hx hb kd_C_pointAway_27 (by decide) (by split <;> omega) (fun c27 => ?_) (fun c27 => ?_)
        · skip
          refine lv_iload_n hx hb kd_C_pointAway_50 rfl (lv_at hl 3 rfl) ?_
          refine lv_iconst (v := nI 1) hx hb kd_C_pointAway_51 (by decide) ?_
          refine lv_iload hx hb kd_C_pointAway_52 (lv_at hl 4 rfl) ?_
          refine lv_ishl hx hb kd_C_pointAway_54 ?_
          refine lv_ior hx hb kd_C_pointAway_55 ?_
          refine zz_top (y := nI (zt_s t1 node)) (zt_set ht1 (zt_ok_8 hok c20).1) ?_
          refine lv_istore_n (lv' := [(3, .int (nI (zt_s t1 node))), (0, .ref (q 0)), (1, .int (nI a)), (2, .int (nI pl)), (4, .int (nI node)), (5, .int (nI half))]) hx hb kd_C_pointAway_56 rfl hl (by decide) rfl (fun ls hl => ?_)
          refine lv_iconst (v := nI 2) hx hb kd_C_pointAway_57 (by decide) ?_
          refine lv_iload hx hb kd_C_pointAway_58 (lv_at hl 4 rfl) ?_
          refine lv_imul hx hb kd_C_pointAway_60 ?_
          refine zz_top (y := nI (2 * node)) (pk_mul _ _) ?_
          refine lv_istore (lv' := [(4, .int (nI (2 * node))), (3, .int (nI (zt_s t1 node))), (0, .ref (q 0)), (1, .int (nI a)), (2, .int (nI pl)), (5, .int (nI half))]) hx hb kd_C_pointAway_61 hl (by decide) rfl (fun ls hl => ?_)
          refine lv_iload hx hb kd_C_pointAway_63 (lv_at hl 5 rfl) ?_
          refine lv_iconst (v := nI 1) hx hb kd_C_pointAway_65 (by decide) ?_
          refine lv_ishr hx hb kd_C_pointAway_66 ?_
          refine zz_top (y := nI (half / 2)) (zn_half (by omega)) ?_
          refine lv_istore (lv' := [(5, .int (nI (half / 2))), (4, .int (nI (2 * node))), (3, .int (nI (zt_s t1 node))), (0, .ref (q 0)), (1, .int (nI a)), (2, .int (nI pl))]) hx hb kd_C_pointAway_67 hl (by decide) rfl (fun ls hl => ?_)
          refine lv_goto (tgt := 18) hx hb kd_C_pointAway_69 (by decide) ?_
          exact ih (half / 2) (2 * node) (zt_s t1 node) (fl - 1) (by omega) (by first | exact heq.trans (zt_pa_t c20 hf (by split at c27 <;> omega) ht1 (zt_ok_8 hok c20).1) | exact heq.trans (zt_pa_f c20 hf (by split at c27 <;> omega) ht1 (zt_ok_8 hok c20).1)) (zt_hf c20 hf) (by first | exact zt_ok_n (b := 1) hok c20 (by omega) | exact zt_ok_n (b := 0) hok c20 (by omega)) (by first | exact (zt_cb ht1 (zt_ok_8 hok c20).1).1 | exact (zt_sb ht1 (zt_ok_8 hok c20).1).1) (by omega) _ _ hP hD hS ls (lv_sub hl [3, 4, 5, 2, 1, 0] rfl)
        · skip
          refine lv_iload_n hx hb kd_C_pointAway_30 rfl (lv_at hl 3 rfl) ?_
          refine lv_iconst (v := nI 1) hx hb kd_C_pointAway_31 (by decide) ?_
          refine lv_iload hx hb kd_C_pointAway_32 (lv_at hl 4 rfl) ?_
          refine lv_ishl hx hb kd_C_pointAway_34 ?_
          refine lv_iconst (v := (-1)) hx hb kd_C_pointAway_35 (by decide) ?_
          refine lv_ixor hx hb kd_C_pointAway_36 ?_
          refine lv_iand hx hb kd_C_pointAway_37 ?_
          refine zz_top (y := nI (zt_c t1 node)) (zt_clr ht1 (zt_ok_8 hok c20).1) ?_
          refine lv_istore_n (lv' := [(3, .int (nI (zt_c t1 node))), (0, .ref (q 0)), (1, .int (nI a)), (2, .int (nI pl)), (4, .int (nI node)), (5, .int (nI half))]) hx hb kd_C_pointAway_38 rfl hl (by decide) rfl (fun ls hl => ?_)
          refine lv_iconst (v := nI 2) hx hb kd_C_pointAway_39 (by decide) ?_
          refine lv_iload hx hb kd_C_pointAway_40 (lv_at hl 4 rfl) ?_
          refine lv_imul hx hb kd_C_pointAway_42 ?_
          refine zz_top (y := nI (2 * node)) (pk_mul _ _) ?_
          refine lv_iconst (v := nI 1) hx hb kd_C_pointAway_43 (by decide) ?_
          refine lv_iadd hx hb kd_C_pointAway_44 ?_
          refine zz_top (y := nI (2 * node + 1)) (nI_add _ _) ?_
          refine lv_istore (lv' := [(4, .int (nI (2 * node + 1))), (3, .int (nI (zt_c t1 node))), (0, .ref (q 0)), (1, .int (nI a)), (2, .int (nI pl)), (5, .int (nI half))]) hx hb kd_C_pointAway_45 hl (by decide) rfl (fun ls hl => ?_)
          refine lv_goto (tgt := 63) hx hb kd_C_pointAway_47 (by decide) ?_
          refine lv_iload hx hb kd_C_pointAway_63 (lv_at hl 5 rfl) ?_
          refine lv_iconst (v := nI 1) hx hb kd_C_pointAway_65 (by decide) ?_
          refine lv_ishr hx hb kd_C_pointAway_66 ?_
          refine zz_top (y := nI (half / 2)) (zn_half (by omega)) ?_
          refine lv_istore (lv' := [(5, .int (nI (half / 2))), (4, .int (nI (2 * node + 1))), (3, .int (nI (zt_c t1 node))), (0, .ref (q 0)), (1, .int (nI a)), (2, .int (nI pl))]) hx hb kd_C_pointAway_67 hl (by decide) rfl (fun ls hl => ?_)
          refine lv_goto (tgt := 18) hx hb kd_C_pointAway_69 (by decide) ?_
          exact ih (half / 2) (2 * node + 1) (zt_c t1 node) (fl - 1) (by omega) (by first | exact heq.trans (zt_pa_t c20 hf (by split at c27 <;> omega) ht1 (zt_ok_8 hok c20).1) | exact heq.trans (zt_pa_f c20 hf (by split at c27 <;> omega) ht1 (zt_ok_8 hok c20).1)) (zt_hf c20 hf) (by first | exact zt_ok_n (b := 1) hok c20 (by omega) | exact zt_ok_n (b := 0) hok c20 (by omega)) (by first | exact (zt_cb ht1 (zt_ok_8 hok c20).1).1 | exact (zt_sb ht1 (zt_ok_8 hok c20).1).1) (by omega) _ _ hP hD hS ls (lv_sub hl [3, 4, 5, 2, 1, 0] rfl)
  exact hc18 _ (wy / 2) 1 t 4 (Nat.lt_succ_self _) (rfl) (by omega) (by unfold zt_ok; omega) (ht) (by omega) _ _ hP hD hS ls (lv_sub hl [3, 4, 5, 2, 1, 0] rfl)

def rm_cc_letAllGo : Room := { frames := 1, cells := 0, slots := 0, locals := 22 }
set_option maxHeartbeats 4000000 in
set_option maxRecDepth 100000 in
/-- all blocks go -/
theorem cc_letAllGo (l : Launch) (dC : Nat → ClassId) (dI : Nat → Nat → Nat) (cI cZ cO cL : ClassId) (q : Nat → Nat) (sb : Nat) (wy : Nat) (kd : Nat) (bb : Nat) (hi : Int32) (mi : Int32) (vi : Int32) (wb : Int32) (fb : Nat → Int32) (fd : Nat → Int32) (fs : Nat → Int32) (ft : Nat → Int32)  : zz_Mi l ky_C_letAllGo kw_C_letAllGo rm_cc_letAllGo (dC, dI) (zz_ty cI cZ cO cL) [(q 0, zc_ob q sb wy kd bb hi mi vi wb), (q 1, .inl (cI, 128, .inl fb)), (q 2, .inl (cZ, 128, .inl fd)), (q 3, .inl (cI, 128, .inl fs)), (q 4, .inl (cI, 16, .inl ft))] [.ref (q 0)] (fun (r : Int32) (w : va_W) => ∃ (fb2 : Nat → Int32), ∃ (fd2 : Nat → Int32), ∃ (fs2 : Nat → Int32), ∃ (ft2 : Nat → Int32), w = [(q 0, zc_ob q sb wy kd bb hi mi vi (wb + nI (zf_ct (fun j => decide (fd j ≠ 0)) 128))), (q 1, .inl (cI, 128, .inl fb2)), (q 2, .inl (cZ, 128, .inl fd2)), (q 3, .inl (cI, 128, .inl fs2)), (q 4, .inl (cI, 16, .inl ft2))] ∧ (r = nI (zf_ct (fun j => decide (fd j ≠ 0)) 128)) ∧ (∀ j, j < 128 → fb2 j = -1) ∧ (∀ j, j < 128 → fd2 j = 0) ∧ (∀ j, j < 128 → fs2 j = 0) ∧ (∀ j, j < 16 → ft2 j = 0)) 0 0 := by
  refine zz_entry_i (cc := kb_C_letAllGo) (maxL := 2) (own := zk_RC) (by decide) rfl rfl (Nat.le_of_ble_eq_true rfl) ?_
  intro p e s m args below meth c Q hx hb hml hown hts hin hP hK A hD hA hS hret ls hl
  have hl : lv_has ls 2 [(0, .ref (q 0))] := hl
  obtain ⟨H, eH⟩ : ∃ z, z = s.heap := ⟨_, rfl⟩
  obtain ⟨locs, eL⟩ : ∃ z : List Loc, z = [] := ⟨_, rfl⟩
  rw [← eH] at hP ⊢
  have hS : va_S A s.heap H locs := by rw [eH, eL]; exact hS
  rw [← eL]
  refine lv_aload_n hx hb kd_C_letAllGo_0 rfl (lv_at hl 0 rfl) ?_
  refine zz_iV (As := []) (rest := []) (wc := [(q 0, zc_ob q sb wy kd bb hi mi vi wb), (q 2, .inl (cZ, 128, .inl fd))]) (wr := [(q 1, .inl (cI, 128, .inl fb)), (q 3, .inl (cI, 128, .inl fs)), (q 4, .inl (cI, 16, .inl ft))]) ⟨hx, hb, hml, hown, hts⟩ (cc_countDirty l dC dI cI cZ cO cL q sb wy kd bb hi mi vi wb fd ) (zz_cwV hts kj_267 kj_33 kj_264 kj_265 kj_266 kz_C_countDirty rfl rfl ⟨Nat.le_of_ble_eq_true rfl, Nat.le_of_ble_eq_true rfl⟩) (hP.sub [1, 3, 4, 0, 2] rfl) (hD.sub [1, 3, 4, 0, 2] (by decide) rfl) hK hS hA (q0 := 0) rfl rfl rfl rfl hl.1 rfl (Nat.le_of_ble_eq_true rfl) kd_C_letAllGo_1 ⟨by decide, by decide⟩ (fun r9 w9 H locs hw hP hD hS => ?_)
  obtain ⟨rfl, rfl⟩ := hw
  have hP : va_P (dC, dI) zk_cl [(q 1, .inl (cI, 128, .inl fb)), (q 3, .inl (cI, 128, .inl fs)), (q 4, .inl (cI, 16, .inl ft)), (q 0, zc_ob q sb wy kd bb hi mi vi wb), (q 2, .inl (cZ, 128, .inl fd))] H := hP
  have hD : va_D A [(q 1, .inl (cI, 128, .inl fb)), (q 3, .inl (cI, 128, .inl fs)), (q 4, .inl (cI, 16, .inl ft)), (q 0, zc_ob q sb wy kd bb hi mi vi wb), (q 2, .inl (cZ, 128, .inl fd))] := hD
  refine lv_istore_n (lv' := [(1, .int (nI (zf_ct (fun j => decide (fd j ≠ 0)) 128))), (0, .ref (q 0))]) hx hb kd_C_letAllGo_4 rfl hl (by decide) rfl (fun ls hl => ?_)
  refine lv_aload_n hx hb kd_C_letAllGo_5 rfl (lv_at hl 1 rfl) ?_
  refine lv_dup hx hb kd_C_letAllGo_6 rfl ?_
  refine va_get (D := (dC, dI)) (ci := 0) (v := .int wb) (C := zk_RC) (T := zk_TC) (N := 12) hx hb hts kl_C hown hK hP 3 rfl rfl 11 (by decide) (hts _ kj_156) (fun _ h9 => h9) rfl kd_C_letAllGo_7 ?_
  refine lv_iload_n hx hb kd_C_letAllGo_10 rfl (lv_at hl 0 rfl) ?_
  refine lv_iadd hx hb kd_C_letAllGo_11 ?_
  refine va_put (D := (dC, dI)) (ci := 0) (v := .int (wb + (nI (zf_ct (fun j => decide (fd j ≠ 0)) 128)))) (ty := .int) (C := zk_RC) (T := zk_TC) (N := 12) hx hb hts kl_C zk_tC zk_kC zk_nC hown hK hP hD hS 3 rfl rfl 11 (by decide) (hts _ kj_156) (fun _ h9 => h9) rfl (by decide +kernel) rfl rfl (Nat.le_of_ble_eq_true rfl) kd_C_letAllGo_12 (fun H locs hP hD hS => ?_)
  have hP : va_P (dC, dI) zk_cl [(q 1, .inl (cI, 128, .inl fb)), (q 3, .inl (cI, 128, .inl fs)), (q 4, .inl (cI, 16, .inl ft)), (q 0, zc_ob q sb wy kd bb hi mi vi (wb + (nI (zf_ct (fun j => decide (fd j ≠ 0)) 128)))), (q 2, .inl (cZ, 128, .inl fd))] H := hP
  have hD : va_D A [(q 1, .inl (cI, 128, .inl fb)), (q 3, .inl (cI, 128, .inl fs)), (q 4, .inl (cI, 16, .inl ft)), (q 0, zc_ob q sb wy kd bb hi mi vi (wb + (nI (zf_ct (fun j => decide (fd j ≠ 0)) 128)))), (q 2, .inl (cZ, 128, .inl fd))] := hD
  refine lv_aload_n hx hb kd_C_letAllGo_15 rfl (lv_at hl 1 rfl) ?_
  refine zz_vV (As := []) (rest := []) (wc := [(q 0, zc_ob q sb wy kd bb hi mi vi (wb + (nI (zf_ct (fun j => decide (fd j ≠ 0)) 128)))), (q 1, .inl (cI, 128, .inl fb)), (q 2, .inl (cZ, 128, .inl fd)), (q 3, .inl (cI, 128, .inl fs)), (q 4, .inl (cI, 16, .inl ft))]) (wr := []) ⟨hx, hb, hml, hown, hts⟩ (cc_emptyAll l dC dI cI cZ cO cL q sb wy kd bb hi mi vi (wb + (nI (zf_ct (fun j => decide (fd j ≠ 0)) 128))) fb fd fs ft ) (zz_cwV hts kj_177 kj_33 kj_175 kj_176 kj_0 kz_C_emptyAll rfl rfl ⟨Nat.le_of_ble_eq_true rfl, Nat.le_of_ble_eq_true rfl⟩) (hP.sub [3, 0, 4, 1, 2] rfl) (hD.sub [3, 0, 4, 1, 2] (by decide) rfl) hK hS hA (q0 := 0) rfl rfl rfl rfl hl.1 rfl (Nat.le_of_ble_eq_true rfl) kd_C_letAllGo_16 ⟨by decide, by decide⟩ (fun w9 H locs hw hP hD hS => ?_)
  obtain ⟨fb2_2, fd2_3, fs2_4, ft2_5, rfl, eb16, ed16, es16, et16⟩ := hw
  have hP : va_P (dC, dI) zk_cl [(q 0, zc_ob q sb wy kd bb hi mi vi (wb + (nI (zf_ct (fun j => decide (fd j ≠ 0)) 128)))), (q 1, .inl (cI, 128, .inl fb2_2)), (q 2, .inl (cZ, 128, .inl fd2_3)), (q 3, .inl (cI, 128, .inl fs2_4)), (q 4, .inl (cI, 16, .inl ft2_5))] H := hP
  have hD : va_D A [(q 0, zc_ob q sb wy kd bb hi mi vi (wb + (nI (zf_ct (fun j => decide (fd j ≠ 0)) 128)))), (q 1, .inl (cI, 128, .inl fb2_2)), (q 2, .inl (cZ, 128, .inl fd2_3)), (q 3, .inl (cI, 128, .inl fs2_4)), (q 4, .inl (cI, 16, .inl ft2_5))] := hD
  refine lv_iload_n hx hb kd_C_letAllGo_19 rfl (lv_at hl 0 rfl) ?_
  exact hret _ _ _ _ _ _ kd_C_letAllGo_20 hP hD hS (⟨fb2_2, fd2_3, fs2_4, ft2_5, rfl, rfl, (eb16), (ed16), (es16), (et16)⟩)

def rm_cc_become : Room := { frames := 1, cells := 0, slots := 0, locals := 21 }
set_option maxHeartbeats 4000000 in
set_option maxRecDepth 100000 in
/-- it becomes an empty cache of this shape -/
theorem cc_become (l : Launch) (dC : Nat → ClassId) (dI : Nat → Nat → Nat) (cI cZ cO cL : ClassId) (q : Nat → Nat) (sb : Nat) (wy : Nat) (kd : Nat) (bb : Nat) (hi : Int32) (mi : Int32) (vi : Int32) (wb : Int32) (fb : Nat → Int32) (fd : Nat → Int32) (fs : Nat → Int32) (ft : Nat → Int32) (sc : Nat) (wc : Nat) (kc : Nat) (bc : Nat)  : zz_Mv l ky_C_become kw_C_become rm_cc_become (dC, dI) (zz_ty cI cZ cO cL) [(q 0, zc_ob q sb wy kd bb hi mi vi wb), (q 1, .inl (cI, 128, .inl fb)), (q 2, .inl (cZ, 128, .inl fd)), (q 3, .inl (cI, 128, .inl fs)), (q 4, .inl (cI, 16, .inl ft))] [.ref (q 0), .int (nI sc), .int (nI wc), .int (nI kc), .int (nI bc)] (fun (w : va_W) => ∃ (fb2 : Nat → Int32), ∃ (fd2 : Nat → Int32), ∃ (fs2 : Nat → Int32), ∃ (ft2 : Nat → Int32), w = [(q 0, zc_ob q sc wc kc bc (nI 0) (nI 0) (nI 0) (nI 0)), (q 1, .inl (cI, 128, .inl fb2)), (q 2, .inl (cZ, 128, .inl fd2)), (q 3, .inl (cI, 128, .inl fs2)), (q 4, .inl (cI, 16, .inl ft2))] ∧ (∀ j, j < 128 → fb2 j = -1) ∧ (∀ j, j < 128 → fd2 j = 0) ∧ (∀ j, j < 128 → fs2 j = 0) ∧ (∀ j, j < 16 → ft2 j = 0)) 0 0 := by
  refine zz_entry_v (cc := kb_C_become) (maxL := 5) (own := zk_RC) (by decide) rfl rfl (Nat.le_of_ble_eq_true rfl) ?_
  intro p e s m args below meth c Q hx hb hml hown hts hin hP hK A hD hA hS hret ls hl
  have hl : lv_has ls 5 [(0, .ref (q 0)), (1, .int (nI sc)), (2, .int (nI wc)), (3, .int (nI kc)), (4, .int (nI bc))] := hl
  obtain ⟨H, eH⟩ : ∃ z, z = s.heap := ⟨_, rfl⟩
  obtain ⟨locs, eL⟩ : ∃ z : List Loc, z = [] := ⟨_, rfl⟩
  rw [← eH] at hP ⊢
  have hS : va_S A s.heap H locs := by rw [eH, eL]; exact hS
  rw [← eL]
  refine lv_aload_n hx hb kd_C_become_0 rfl (lv_at hl 0 rfl) ?_
  refine lv_iload_n hx hb kd_C_become_1 rfl (lv_at hl 1 rfl) ?_
  refine va_put (D := (dC, dI)) (ci := 0) (v := .int (nI sc)) (ty := .int) (C := zk_RC) (T := zk_TC) (N := 12) hx hb hts kl_C zk_tC zk_kC zk_nC hown hK hP hD hS 0 rfl rfl 0 (by decide) (hts _ kj_142) (fun _ h9 => h9) rfl (by decide +kernel) rfl rfl (Nat.le_of_ble_eq_true rfl) kd_C_become_2 (fun H locs hP hD hS => ?_)
  have hP : va_P (dC, dI) zk_cl [(q 0, zc_ob q sc wy kd bb hi mi vi wb), (q 1, .inl (cI, 128, .inl fb)), (q 2, .inl (cZ, 128, .inl fd)), (q 3, .inl (cI, 128, .inl fs)), (q 4, .inl (cI, 16, .inl ft))] H := hP
  have hD : va_D A [(q 0, zc_ob q sc wy kd bb hi mi vi wb), (q 1, .inl (cI, 128, .inl fb)), (q 2, .inl (cZ, 128, .inl fd)), (q 3, .inl (cI, 128, .inl fs)), (q 4, .inl (cI, 16, .inl ft))] := hD
  refine lv_aload_n hx hb kd_C_become_5 rfl (lv_at hl 0 rfl) ?_
  refine lv_iload_n hx hb kd_C_become_6 rfl (lv_at hl 2 rfl) ?_
  refine va_put (D := (dC, dI)) (ci := 0) (v := .int (nI wc)) (ty := .int) (C := zk_RC) (T := zk_TC) (N := 12) hx hb hts kl_C zk_tC zk_kC zk_nC hown hK hP hD hS 0 rfl rfl 1 (by decide) (hts _ kj_143) (fun _ h9 => h9) rfl (by decide +kernel) rfl rfl (Nat.le_of_ble_eq_true rfl) kd_C_become_7 (fun H locs hP hD hS => ?_)
  have hP : va_P (dC, dI) zk_cl [(q 0, zc_ob q sc wc kd bb hi mi vi wb), (q 1, .inl (cI, 128, .inl fb)), (q 2, .inl (cZ, 128, .inl fd)), (q 3, .inl (cI, 128, .inl fs)), (q 4, .inl (cI, 16, .inl ft))] H := hP
  have hD : va_D A [(q 0, zc_ob q sc wc kd bb hi mi vi wb), (q 1, .inl (cI, 128, .inl fb)), (q 2, .inl (cZ, 128, .inl fd)), (q 3, .inl (cI, 128, .inl fs)), (q 4, .inl (cI, 16, .inl ft))] := hD
  refine lv_aload_n hx hb kd_C_become_10 rfl (lv_at hl 0 rfl) ?_
  refine lv_iload_n hx hb kd_C_become_11 rfl (lv_at hl 3 rfl) ?_
  refine va_put (D := (dC, dI)) (ci := 0) (v := .int (nI kc)) (ty := .int) (C := zk_RC) (T := zk_TC) (N := 12) hx hb hts kl_C zk_tC zk_kC zk_nC hown hK hP hD hS 0 rfl rfl 2 (by decide) (hts _ kj_144) (fun _ h9 => h9) rfl (by decide +kernel) rfl rfl (Nat.le_of_ble_eq_true rfl) kd_C_become_12 (fun H locs hP hD hS => ?_)
  have hP : va_P (dC, dI) zk_cl [(q 0, zc_ob q sc wc kc bb hi mi vi wb), (q 1, .inl (cI, 128, .inl fb)), (q 2, .inl (cZ, 128, .inl fd)), (q 3, .inl (cI, 128, .inl fs)), (q 4, .inl (cI, 16, .inl ft))] H := hP
  have hD : va_D A [(q 0, zc_ob q sc wc kc bb hi mi vi wb), (q 1, .inl (cI, 128, .inl fb)), (q 2, .inl (cZ, 128, .inl fd)), (q 3, .inl (cI, 128, .inl fs)), (q 4, .inl (cI, 16, .inl ft))] := hD
  refine lv_aload_n hx hb kd_C_become_15 rfl (lv_at hl 0 rfl) ?_
  refine lv_iload hx hb kd_C_become_16 (lv_at hl 4 rfl) ?_
  refine va_put (D := (dC, dI)) (ci := 0) (v := .int (nI bc)) (ty := .int) (C := zk_RC) (T := zk_TC) (N := 12) hx hb hts kl_C zk_tC zk_kC zk_nC hown hK hP hD hS 0 rfl rfl 3 (by decide) (hts _ kj_145) (fun _ h9 => h9) rfl (by decide +kernel) rfl rfl (Nat.le_of_ble_eq_true rfl) kd_C_become_18 (fun H locs hP hD hS => ?_)
  have hP : va_P (dC, dI) zk_cl [(q 0, zc_ob q sc wc kc bc hi mi vi wb), (q 1, .inl (cI, 128, .inl fb)), (q 2, .inl (cZ, 128, .inl fd)), (q 3, .inl (cI, 128, .inl fs)), (q 4, .inl (cI, 16, .inl ft))] H := hP
  have hD : va_D A [(q 0, zc_ob q sc wc kc bc hi mi vi wb), (q 1, .inl (cI, 128, .inl fb)), (q 2, .inl (cZ, 128, .inl fd)), (q 3, .inl (cI, 128, .inl fs)), (q 4, .inl (cI, 16, .inl ft))] := hD
  refine lv_aload_n hx hb kd_C_become_21 rfl (lv_at hl 0 rfl) ?_
  refine lv_iconst (v := nI 0) hx hb kd_C_become_22 (by decide) ?_
  refine va_put (D := (dC, dI)) (ci := 0) (v := .int (nI 0)) (ty := .int) (C := zk_RC) (T := zk_TC) (N := 12) hx hb hts kl_C zk_tC zk_kC zk_nC hown hK hP hD hS 0 rfl rfl 8 (by decide) (hts _ kj_150) (fun _ h9 => h9) rfl (by decide +kernel) rfl rfl (Nat.le_of_ble_eq_true rfl) kd_C_become_23 (fun H locs hP hD hS => ?_)
  have hP : va_P (dC, dI) zk_cl [(q 0, zc_ob q sc wc kc bc (nI 0) mi vi wb), (q 1, .inl (cI, 128, .inl fb)), (q 2, .inl (cZ, 128, .inl fd)), (q 3, .inl (cI, 128, .inl fs)), (q 4, .inl (cI, 16, .inl ft))] H := hP
  have hD : va_D A [(q 0, zc_ob q sc wc kc bc (nI 0) mi vi wb), (q 1, .inl (cI, 128, .inl fb)), (q 2, .inl (cZ, 128, .inl fd)), (q 3, .inl (cI, 128, .inl fs)), (q 4, .inl (cI, 16, .inl ft))] := hD
  refine lv_aload_n hx hb kd_C_become_26 rfl (lv_at hl 0 rfl) ?_
  refine lv_iconst (v := nI 0) hx hb kd_C_become_27 (by decide) ?_
  refine va_put (D := (dC, dI)) (ci := 0) (v := .int (nI 0)) (ty := .int) (C := zk_RC) (T := zk_TC) (N := 12) hx hb hts kl_C zk_tC zk_kC zk_nC hown hK hP hD hS 0 rfl rfl 9 (by decide) (hts _ kj_152) (fun _ h9 => h9) rfl (by decide +kernel) rfl rfl (Nat.le_of_ble_eq_true rfl) kd_C_become_28 (fun H locs hP hD hS => ?_)
  have hP : va_P (dC, dI) zk_cl [(q 0, zc_ob q sc wc kc bc (nI 0) (nI 0) vi wb), (q 1, .inl (cI, 128, .inl fb)), (q 2, .inl (cZ, 128, .inl fd)), (q 3, .inl (cI, 128, .inl fs)), (q 4, .inl (cI, 16, .inl ft))] H := hP
  have hD : va_D A [(q 0, zc_ob q sc wc kc bc (nI 0) (nI 0) vi wb), (q 1, .inl (cI, 128, .inl fb)), (q 2, .inl (cZ, 128, .inl fd)), (q 3, .inl (cI, 128, .inl fs)), (q 4, .inl (cI, 16, .inl ft))] := hD
  refine lv_aload_n hx hb kd_C_become_31 rfl (lv_at hl 0 rfl) ?_
  refine lv_iconst (v := nI 0) hx hb kd_C_become_32 (by decide) ?_
  refine va_put (D := (dC, dI)) (ci := 0) (v := .int (nI 0)) (ty := .int) (C := zk_RC) (T := zk_TC) (N := 12) hx hb hts kl_C zk_tC zk_kC zk_nC hown hK hP hD hS 0 rfl rfl 10 (by decide) (hts _ kj_154) (fun _ h9 => h9) rfl (by decide +kernel) rfl rfl (Nat.le_of_ble_eq_true rfl) kd_C_become_33 (fun H locs hP hD hS => ?_)
  have hP : va_P (dC, dI) zk_cl [(q 0, zc_ob q sc wc kc bc (nI 0) (nI 0) (nI 0) wb), (q 1, .inl (cI, 128, .inl fb)), (q 2, .inl (cZ, 128, .inl fd)), (q 3, .inl (cI, 128, .inl fs)), (q 4, .inl (cI, 16, .inl ft))] H := hP
  have hD : va_D A [(q 0, zc_ob q sc wc kc bc (nI 0) (nI 0) (nI 0) wb), (q 1, .inl (cI, 128, .inl fb)), (q 2, .inl (cZ, 128, .inl fd)), (q 3, .inl (cI, 128, .inl fs)), (q 4, .inl (cI, 16, .inl ft))] := hD
  refine lv_aload_n hx hb kd_C_become_36 rfl (lv_at hl 0 rfl) ?_
  refine lv_iconst (v := nI 0) hx hb kd_C_become_37 (by decide) ?_
  refine va_put (D := (dC, dI)) (ci := 0) (v := .int (nI 0)) (ty := .int) (C := zk_RC) (T := zk_TC) (N := 12) hx hb hts kl_C zk_tC zk_kC zk_nC hown hK hP hD hS 0 rfl rfl 11 (by decide) (hts _ kj_156) (fun _ h9 => h9) rfl (by decide +kernel) rfl rfl (Nat.le_of_ble_eq_true rfl) kd_C_become_38 (fun H locs hP hD hS => ?_)
  have hP : va_P (dC, dI) zk_cl [(q 0, zc_ob q sc wc kc bc (nI 0) (nI 0) (nI 0) (nI 0)), (q 1, .inl (cI, 128, .inl fb)), (q 2, .inl (cZ, 128, .inl fd)), (q 3, .inl (cI, 128, .inl fs)), (q 4, .inl (cI, 16, .inl ft))] H := hP
  have hD : va_D A [(q 0, zc_ob q sc wc kc bc (nI 0) (nI 0) (nI 0) (nI 0)), (q 1, .inl (cI, 128, .inl fb)), (q 2, .inl (cZ, 128, .inl fd)), (q 3, .inl (cI, 128, .inl fs)), (q 4, .inl (cI, 16, .inl ft))] := hD
  refine lv_aload_n hx hb kd_C_become_41 rfl (lv_at hl 0 rfl) ?_
  refine zz_vV (As := []) (rest := []) (wc := [(q 0, zc_ob q sc wc kc bc (nI 0) (nI 0) (nI 0) (nI 0)), (q 1, .inl (cI, 128, .inl fb)), (q 2, .inl (cZ, 128, .inl fd)), (q 3, .inl (cI, 128, .inl fs)), (q 4, .inl (cI, 16, .inl ft))]) (wr := []) ⟨hx, hb, hml, hown, hts⟩ (cc_emptyAll l dC dI cI cZ cO cL q sc wc kc bc (nI 0) (nI 0) (nI 0) (nI 0) fb fd fs ft ) (zz_cwV hts kj_177 kj_33 kj_175 kj_176 kj_0 kz_C_emptyAll rfl rfl ⟨Nat.le_of_ble_eq_true rfl, Nat.le_of_ble_eq_true rfl⟩) hP hD hK hS hA (q0 := 0) rfl rfl rfl rfl hl.1 rfl (Nat.le_of_ble_eq_true rfl) kd_C_become_42 ⟨by decide, by decide⟩ (fun w9 H locs hw hP hD hS => ?_)
  obtain ⟨fb2_1, fd2_2, fs2_3, ft2_4, rfl, eb42, ed42, es42, et42⟩ := hw
  have hP : va_P (dC, dI) zk_cl [(q 0, zc_ob q sc wc kc bc (nI 0) (nI 0) (nI 0) (nI 0)), (q 1, .inl (cI, 128, .inl fb2_1)), (q 2, .inl (cZ, 128, .inl fd2_2)), (q 3, .inl (cI, 128, .inl fs2_3)), (q 4, .inl (cI, 16, .inl ft2_4))] H := hP
  have hD : va_D A [(q 0, zc_ob q sc wc kc bc (nI 0) (nI 0) (nI 0) (nI 0)), (q 1, .inl (cI, 128, .inl fb2_1)), (q 2, .inl (cZ, 128, .inl fd2_2)), (q 3, .inl (cI, 128, .inl fs2_3)), (q 4, .inl (cI, 16, .inl ft2_4))] := hD
  exact hret _ _ _ _ _ kd_C_become_45 hP hD hS (⟨fb2_1, fd2_2, fs2_3, ft2_4, rfl, (eb42), (ed42), (es42), (et42)⟩)
